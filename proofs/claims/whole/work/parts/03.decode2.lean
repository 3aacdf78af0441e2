theorem dX7_init_0 : decode cX7_init 0 = .ok (.aload_n 0, 1) := by decide +kernel
theorem dX7_init_1 : decode cX7_init 1 = .ok (.invokespecial 1, 3) := by decide +kernel
theorem dX7_init_4 : decode cX7_init 4 = .ok (.aload_n 0, 1) := by decide +kernel
theorem dX7_init_5 : decode cX7_init 5 = .ok (.bipush 70, 2) := by decide +kernel
theorem dX7_init_7 : decode cX7_init 7 = .ok (.newarray .int, 2) := by decide +kernel
theorem dX7_init_9 : decode cX7_init 9 = .ok (.putfield 7, 3) := by decide +kernel
theorem dX7_init_12 : decode cX7_init 12 = .ok (.aload_n 0, 1) := by decide +kernel
theorem dX7_init_13 : decode cX7_init 13 = .ok (.iconst 4, 1) := by decide +kernel
theorem dX7_init_14 : decode cX7_init 14 = .ok (.newarray .int, 2) := by decide +kernel
theorem dX7_init_16 : decode cX7_init 16 = .ok (.putfield 13, 3) := by decide +kernel
theorem dX7_init_19 : decode cX7_init 19 = .ok (.aload_n 0, 1) := by decide +kernel
theorem dX7_init_20 : decode cX7_init 20 = .ok (.bipush 6, 2) := by decide +kernel
theorem dX7_init_22 : decode cX7_init 22 = .ok (.newarray .int, 2) := by decide +kernel
theorem dX7_init_24 : decode cX7_init 24 = .ok (.putfield 16, 3) := by decide +kernel
theorem dX7_init_27 : decode cX7_init 27 = .ok (.aload_n 0, 1) := by decide +kernel
theorem dX7_init_28 : decode cX7_init 28 = .ok (.bipush 6, 2) := by decide +kernel
theorem dX7_init_30 : decode cX7_init 30 = .ok (.newarray .int, 2) := by decide +kernel
theorem dX7_init_32 : decode cX7_init 32 = .ok (.putfield 19, 3) := by decide +kernel
theorem dX7_init_35 : decode cX7_init 35 = .ok (.aload_n 0, 1) := by decide +kernel
theorem dX7_init_36 : decode cX7_init 36 = .ok (.bipush 6, 2) := by decide +kernel
theorem dX7_init_38 : decode cX7_init 38 = .ok (.newarray .int, 2) := by decide +kernel
theorem dX7_init_40 : decode cX7_init 40 = .ok (.putfield 22, 3) := by decide +kernel
theorem dX7_init_43 : decode cX7_init 43 = .ok (.aload_n 0, 1) := by decide +kernel
theorem dX7_init_44 : decode cX7_init 44 = .ok (.bipush 6, 2) := by decide +kernel
theorem dX7_init_46 : decode cX7_init 46 = .ok (.newarray .int, 2) := by decide +kernel
theorem dX7_init_48 : decode cX7_init 48 = .ok (.putfield 25, 3) := by decide +kernel
theorem dX7_init_51 : decode cX7_init 51 = .ok (.aload_n 0, 1) := by decide +kernel
theorem dX7_init_52 : decode cX7_init 52 = .ok (.bipush 40, 2) := by decide +kernel
theorem dX7_init_54 : decode cX7_init 54 = .ok (.newarray .int, 2) := by decide +kernel
theorem dX7_init_56 : decode cX7_init 56 = .ok (.putfield 28, 3) := by decide +kernel
theorem dX7_init_59 : decode cX7_init 59 = .ok (.aload_n 0, 1) := by decide +kernel
theorem dX7_init_60 : decode cX7_init 60 = .ok (.bipush 40, 2) := by decide +kernel
theorem dX7_init_62 : decode cX7_init 62 = .ok (.newarray .int, 2) := by decide +kernel
theorem dX7_init_64 : decode cX7_init 64 = .ok (.putfield 31, 3) := by decide +kernel
theorem dX7_init_67 : decode cX7_init 67 = .ok (.aload_n 0, 1) := by decide +kernel
theorem dX7_init_68 : decode cX7_init 68 = .ok (.sipush 560, 3) := by decide +kernel
theorem dX7_init_71 : decode cX7_init 71 = .ok (.newarray .int, 2) := by decide +kernel
theorem dX7_init_73 : decode cX7_init 73 = .ok (.putfield 34, 3) := by decide +kernel
theorem dX7_init_76 : decode cX7_init 76 = .ok (.aload_n 0, 1) := by decide +kernel
theorem dX7_init_77 : decode cX7_init 77 = .ok (.bipush 80, 2) := by decide +kernel
theorem dX7_init_79 : decode cX7_init 79 = .ok (.newarray .int, 2) := by decide +kernel
theorem dX7_init_81 : decode cX7_init 81 = .ok (.putfield 37, 3) := by decide +kernel
theorem dX7_init_84 : decode cX7_init 84 = .ok (.aload_n 0, 1) := by decide +kernel
theorem dX7_init_85 : decode cX7_init 85 = .ok (.iconst 2, 1) := by decide +kernel
theorem dX7_init_86 : decode cX7_init 86 = .ok (.newarray .boolean, 2) := by decide +kernel
theorem dX7_init_88 : decode cX7_init 88 = .ok (.putfield 40, 3) := by decide +kernel
theorem dX7_init_91 : decode cX7_init 91 = .ok (.aload_n 0, 1) := by decide +kernel
theorem dX7_init_92 : decode cX7_init 92 = .ok (.bipush 6, 2) := by decide +kernel
theorem dX7_init_94 : decode cX7_init 94 = .ok (.newarray .int, 2) := by decide +kernel
theorem dX7_init_96 : decode cX7_init 96 = .ok (.putfield 44, 3) := by decide +kernel
theorem dX7_init_99 : decode cX7_init 99 = .ok (.aload_n 0, 1) := by decide +kernel
theorem dX7_init_100 : decode cX7_init 100 = .ok (.bipush 6, 2) := by decide +kernel
theorem dX7_init_102 : decode cX7_init 102 = .ok (.newarray .int, 2) := by decide +kernel
theorem dX7_init_104 : decode cX7_init 104 = .ok (.putfield 47, 3) := by decide +kernel
theorem dX7_init_107 : decode cX7_init 107 = .ok (.aload_n 0, 1) := by decide +kernel
theorem dX7_init_108 : decode cX7_init 108 = .ok (.bipush 6, 2) := by decide +kernel
theorem dX7_init_110 : decode cX7_init 110 = .ok (.newarray .int, 2) := by decide +kernel
theorem dX7_init_112 : decode cX7_init 112 = .ok (.putfield 50, 3) := by decide +kernel
theorem dX7_init_115 : decode cX7_init 115 = .ok (.aload_n 0, 1) := by decide +kernel
theorem dX7_init_116 : decode cX7_init 116 = .ok (.iconst 4, 1) := by decide +kernel
theorem dX7_init_117 : decode cX7_init 117 = .ok (.newarray .int, 2) := by decide +kernel
theorem dX7_init_119 : decode cX7_init 119 = .ok (.putfield 53, 3) := by decide +kernel
theorem dX7_init_122 : decode cX7_init 122 = .ok (.aload_n 0, 1) := by decide +kernel
theorem dX7_init_123 : decode cX7_init 123 = .ok (.iconst 4, 1) := by decide +kernel
theorem dX7_init_124 : decode cX7_init 124 = .ok (.newarray .int, 2) := by decide +kernel
theorem dX7_init_126 : decode cX7_init 126 = .ok (.putfield 56, 3) := by decide +kernel
theorem dX7_init_129 : decode cX7_init 129 = .ok (.aload_n 0, 1) := by decide +kernel
theorem dX7_init_130 : decode cX7_init 130 = .ok (.bipush 16, 2) := by decide +kernel
theorem dX7_init_132 : decode cX7_init 132 = .ok (.newarray .int, 2) := by decide +kernel
theorem dX7_init_134 : decode cX7_init 134 = .ok (.putfield 59, 3) := by decide +kernel
theorem dX7_init_137 : decode cX7_init 137 = .ok (.aload_n 0, 1) := by decide +kernel
theorem dX7_init_138 : decode cX7_init 138 = .ok (.iconst 4, 1) := by decide +kernel
theorem dX7_init_139 : decode cX7_init 139 = .ok (.newarray .int, 2) := by decide +kernel
theorem dX7_init_141 : decode cX7_init 141 = .ok (.putfield 62, 3) := by decide +kernel
theorem dX7_init_144 : decode cX7_init 144 = .ok (.aload_n 0, 1) := by decide +kernel
theorem dX7_init_145 : decode cX7_init 145 = .ok (.bipush 6, 2) := by decide +kernel
theorem dX7_init_147 : decode cX7_init 147 = .ok (.newarray .int, 2) := by decide +kernel
theorem dX7_init_149 : decode cX7_init 149 = .ok (.putfield 65, 3) := by decide +kernel
theorem dX7_init_152 : decode cX7_init 152 = .ok (.aload_n 0, 1) := by decide +kernel
theorem dX7_init_153 : decode cX7_init 153 = .ok (.bipush 6, 2) := by decide +kernel
theorem dX7_init_155 : decode cX7_init 155 = .ok (.newarray .int, 2) := by decide +kernel
theorem dX7_init_157 : decode cX7_init 157 = .ok (.putfield 68, 3) := by decide +kernel
theorem dX7_init_160 : decode cX7_init 160 = .ok (.aload_n 0, 1) := by decide +kernel
theorem dX7_init_161 : decode cX7_init 161 = .ok (.bipush 6, 2) := by decide +kernel
theorem dX7_init_163 : decode cX7_init 163 = .ok (.newarray .int, 2) := by decide +kernel
theorem dX7_init_165 : decode cX7_init 165 = .ok (.putfield 71, 3) := by decide +kernel
theorem dX7_init_168 : decode cX7_init 168 = .ok (.aload_n 0, 1) := by decide +kernel
theorem dX7_init_169 : decode cX7_init 169 = .ok (.bipush 6, 2) := by decide +kernel
theorem dX7_init_171 : decode cX7_init 171 = .ok (.newarray .int, 2) := by decide +kernel
theorem dX7_init_173 : decode cX7_init 173 = .ok (.putfield 74, 3) := by decide +kernel
theorem dX7_init_176 : decode cX7_init 176 = .ok (.aload_n 0, 1) := by decide +kernel
theorem dX7_init_177 : decode cX7_init 177 = .ok (.iconst 1, 1) := by decide +kernel
theorem dX7_init_178 : decode cX7_init 178 = .ok (.putfield 77, 3) := by decide +kernel
theorem dX7_init_181 : decode cX7_init 181 = .ok (.aload_n 0, 1) := by decide +kernel
theorem dX7_init_182 : decode cX7_init 182 = .ok (.bipush 15, 2) := by decide +kernel
theorem dX7_init_184 : decode cX7_init 184 = .ok (.putfield 81, 3) := by decide +kernel
theorem dX7_init_187 : decode cX7_init 187 = .ok (.aload_n 0, 1) := by decide +kernel
theorem dX7_init_188 : decode cX7_init 188 = .ok (.bipush (-9), 2) := by decide +kernel
theorem dX7_init_190 : decode cX7_init 190 = .ok (.putfield 84, 3) := by decide +kernel
theorem dX7_init_193 : decode cX7_init 193 = .ok (.aload_n 0, 1) := by decide +kernel
theorem dX7_init_194 : decode cX7_init 194 = .ok (.invokevirtual 87, 3) := by decide +kernel
theorem dX7_init_197 : decode cX7_init 197 = .ok (.return_, 1) := by decide +kernel
theorem dX7_fresh_0 : decode cX7_fresh 0 = .ok (.iconst 0, 1) := by decide +kernel
theorem dX7_fresh_1 : decode cX7_fresh 1 = .ok (.istore_n 1, 1) := by decide +kernel
theorem dX7_fresh_2 : decode cX7_fresh 2 = .ok (.iload_n 1, 1) := by decide +kernel
theorem dX7_fresh_3 : decode cX7_fresh 3 = .ok (.bipush 40, 2) := by decide +kernel
theorem dX7_fresh_5 : decode cX7_fresh 5 = .ok (.if_icmp .ge 26, 3) := by decide +kernel
theorem dX7_fresh_8 : decode cX7_fresh 8 = .ok (.aload_n 0, 1) := by decide +kernel
theorem dX7_fresh_9 : decode cX7_fresh 9 = .ok (.getfield 28, 3) := by decide +kernel
theorem dX7_fresh_12 : decode cX7_fresh 12 = .ok (.iload_n 1, 1) := by decide +kernel
theorem dX7_fresh_13 : decode cX7_fresh 13 = .ok (.iload_n 1, 1) := by decide +kernel
theorem dX7_fresh_14 : decode cX7_fresh 14 = .ok (.iconst 4, 1) := by decide +kernel
theorem dX7_fresh_15 : decode cX7_fresh 15 = .ok (.if_icmp .ge 8, 3) := by decide +kernel
theorem dX7_fresh_18 : decode cX7_fresh 18 = .ok (.bipush (-9), 2) := by decide +kernel
theorem dX7_fresh_20 : decode cX7_fresh 20 = .ok (.goto 4, 3) := by decide +kernel
theorem dX7_fresh_23 : decode cX7_fresh 23 = .ok (.iconst 0, 1) := by decide +kernel
theorem dX7_fresh_24 : decode cX7_fresh 24 = .ok (.iastore, 1) := by decide +kernel
theorem dX7_fresh_25 : decode cX7_fresh 25 = .ok (.iinc 1 1, 3) := by decide +kernel
theorem dX7_fresh_28 : decode cX7_fresh 28 = .ok (.goto (-26), 3) := by decide +kernel
theorem dX7_fresh_31 : decode cX7_fresh 31 = .ok (.return_, 1) := by decide +kernel
theorem dX7_copy_0 : decode cX7_copy 0 = .ok (.iconst 0, 1) := by decide +kernel
theorem dX7_copy_1 : decode cX7_copy 1 = .ok (.istore_n 2, 1) := by decide +kernel
theorem dX7_copy_2 : decode cX7_copy 2 = .ok (.iload_n 2, 1) := by decide +kernel
theorem dX7_copy_3 : decode cX7_copy 3 = .ok (.bipush 40, 2) := by decide +kernel
theorem dX7_copy_5 : decode cX7_copy 5 = .ok (.if_icmp .ge 15, 3) := by decide +kernel
theorem dX7_copy_8 : decode cX7_copy 8 = .ok (.aload_n 1, 1) := by decide +kernel
theorem dX7_copy_9 : decode cX7_copy 9 = .ok (.iload_n 2, 1) := by decide +kernel
theorem dX7_copy_10 : decode cX7_copy 10 = .ok (.aload_n 0, 1) := by decide +kernel
theorem dX7_copy_11 : decode cX7_copy 11 = .ok (.iload_n 2, 1) := by decide +kernel
theorem dX7_copy_12 : decode cX7_copy 12 = .ok (.iaload, 1) := by decide +kernel
theorem dX7_copy_13 : decode cX7_copy 13 = .ok (.iastore, 1) := by decide +kernel
theorem dX7_copy_14 : decode cX7_copy 14 = .ok (.iinc 2 1, 3) := by decide +kernel
theorem dX7_copy_17 : decode cX7_copy 17 = .ok (.goto (-15), 3) := by decide +kernel
theorem dX7_copy_20 : decode cX7_copy 20 = .ok (.return_, 1) := by decide +kernel
theorem dX7_in_0 : decode cX7_in 0 = .ok (.iload_n 0, 1) := by decide +kernel
theorem dX7_in_1 : decode cX7_in 1 = .ok (.iload_n 1, 1) := by decide +kernel
theorem dX7_in_2 : decode cX7_in 2 = .ok (.if_icmp .lt 12, 3) := by decide +kernel
theorem dX7_in_5 : decode cX7_in 5 = .ok (.iload_n 0, 1) := by decide +kernel
theorem dX7_in_6 : decode cX7_in 6 = .ok (.iload_n 2, 1) := by decide +kernel
theorem dX7_in_7 : decode cX7_in 7 = .ok (.if_icmp .gt 7, 3) := by decide +kernel
theorem dX7_in_10 : decode cX7_in 10 = .ok (.iconst 1, 1) := by decide +kernel
theorem dX7_in_11 : decode cX7_in 11 = .ok (.goto 4, 3) := by decide +kernel
theorem dX7_in_14 : decode cX7_in 14 = .ok (.iconst 0, 1) := by decide +kernel
theorem dX7_in_15 : decode cX7_in 15 = .ok (.ireturn, 1) := by decide +kernel
theorem dX7_has_0 : decode cX7_has 0 = .ok (.iload_n 0, 1) := by decide +kernel
theorem dX7_has_1 : decode cX7_has 1 = .ok (.iload_n 1, 1) := by decide +kernel
theorem dX7_has_2 : decode cX7_has 2 = .ok (.ishr, 1) := by decide +kernel
theorem dX7_has_3 : decode cX7_has 3 = .ok (.iconst 1, 1) := by decide +kernel
theorem dX7_has_4 : decode cX7_has 4 = .ok (.iand, 1) := by decide +kernel
theorem dX7_has_5 : decode cX7_has 5 = .ok (.iconst 1, 1) := by decide +kernel
theorem dX7_has_6 : decode cX7_has 6 = .ok (.if_icmp .ne 7, 3) := by decide +kernel
theorem dX7_has_9 : decode cX7_has 9 = .ok (.iconst 1, 1) := by decide +kernel
theorem dX7_has_10 : decode cX7_has 10 = .ok (.goto 4, 3) := by decide +kernel
theorem dX7_has_13 : decode cX7_has 13 = .ok (.iconst 0, 1) := by decide +kernel
theorem dX7_has_14 : decode cX7_has 14 = .ok (.ireturn, 1) := by decide +kernel
theorem dX7_ones_0 : decode cX7_ones 0 = .ok (.iconst 0, 1) := by decide +kernel
theorem dX7_ones_1 : decode cX7_ones 1 = .ok (.istore_n 1, 1) := by decide +kernel
theorem dX7_ones_2 : decode cX7_ones 2 = .ok (.iconst 0, 1) := by decide +kernel
theorem dX7_ones_3 : decode cX7_ones 3 = .ok (.istore_n 2, 1) := by decide +kernel
theorem dX7_ones_4 : decode cX7_ones 4 = .ok (.iload_n 2, 1) := by decide +kernel
theorem dX7_ones_5 : decode cX7_ones 5 = .ok (.bipush 6, 2) := by decide +kernel
theorem dX7_ones_7 : decode cX7_ones 7 = .ok (.if_icmp .ge 17, 3) := by decide +kernel
theorem dX7_ones_10 : decode cX7_ones 10 = .ok (.iload_n 1, 1) := by decide +kernel
theorem dX7_ones_11 : decode cX7_ones 11 = .ok (.iload_n 0, 1) := by decide +kernel
theorem dX7_ones_12 : decode cX7_ones 12 = .ok (.iload_n 2, 1) := by decide +kernel
theorem dX7_ones_13 : decode cX7_ones 13 = .ok (.ishr, 1) := by decide +kernel
theorem dX7_ones_14 : decode cX7_ones 14 = .ok (.iconst 1, 1) := by decide +kernel
theorem dX7_ones_15 : decode cX7_ones 15 = .ok (.iand, 1) := by decide +kernel
theorem dX7_ones_16 : decode cX7_ones 16 = .ok (.iadd, 1) := by decide +kernel
theorem dX7_ones_17 : decode cX7_ones 17 = .ok (.istore_n 1, 1) := by decide +kernel
theorem dX7_ones_18 : decode cX7_ones 18 = .ok (.iinc 2 1, 3) := by decide +kernel
theorem dX7_ones_21 : decode cX7_ones 21 = .ok (.goto (-17), 3) := by decide +kernel
theorem dX7_ones_24 : decode cX7_ones 24 = .ok (.iload_n 1, 1) := by decide +kernel
theorem dX7_ones_25 : decode cX7_ones 25 = .ok (.ireturn, 1) := by decide +kernel
theorem dX7_power_0 : decode cX7_power 0 = .ok (.iconst 1, 1) := by decide +kernel
theorem dX7_power_1 : decode cX7_power 1 = .ok (.istore_n 2, 1) := by decide +kernel
theorem dX7_power_2 : decode cX7_power 2 = .ok (.iconst 0, 1) := by decide +kernel
theorem dX7_power_3 : decode cX7_power 3 = .ok (.istore_n 3, 1) := by decide +kernel
theorem dX7_power_4 : decode cX7_power 4 = .ok (.iload_n 3, 1) := by decide +kernel
theorem dX7_power_5 : decode cX7_power 5 = .ok (.iload_n 1, 1) := by decide +kernel
theorem dX7_power_6 : decode cX7_power 6 = .ok (.if_icmp .ge 13, 3) := by decide +kernel
theorem dX7_power_9 : decode cX7_power 9 = .ok (.iload_n 2, 1) := by decide +kernel
theorem dX7_power_10 : decode cX7_power 10 = .ok (.iload_n 0, 1) := by decide +kernel
theorem dX7_power_11 : decode cX7_power 11 = .ok (.imul, 1) := by decide +kernel
theorem dX7_power_12 : decode cX7_power 12 = .ok (.istore_n 2, 1) := by decide +kernel
theorem dX7_power_13 : decode cX7_power 13 = .ok (.iinc 3 1, 3) := by decide +kernel
theorem dX7_power_16 : decode cX7_power 16 = .ok (.goto (-12), 3) := by decide +kernel
theorem dX7_power_19 : decode cX7_power 19 = .ok (.iload_n 2, 1) := by decide +kernel
theorem dX7_power_20 : decode cX7_power 20 = .ok (.ireturn, 1) := by decide +kernel
theorem dX7_factorial_0 : decode cX7_factorial 0 = .ok (.iconst 1, 1) := by decide +kernel
theorem dX7_factorial_1 : decode cX7_factorial 1 = .ok (.istore_n 1, 1) := by decide +kernel
theorem dX7_factorial_2 : decode cX7_factorial 2 = .ok (.iconst 2, 1) := by decide +kernel
theorem dX7_factorial_3 : decode cX7_factorial 3 = .ok (.istore_n 2, 1) := by decide +kernel
theorem dX7_factorial_4 : decode cX7_factorial 4 = .ok (.iload_n 2, 1) := by decide +kernel
theorem dX7_factorial_5 : decode cX7_factorial 5 = .ok (.iload_n 0, 1) := by decide +kernel
theorem dX7_factorial_6 : decode cX7_factorial 6 = .ok (.if_icmp .gt 13, 3) := by decide +kernel
theorem dX7_factorial_9 : decode cX7_factorial 9 = .ok (.iload_n 1, 1) := by decide +kernel
theorem dX7_factorial_10 : decode cX7_factorial 10 = .ok (.iload_n 2, 1) := by decide +kernel
theorem dX7_factorial_11 : decode cX7_factorial 11 = .ok (.imul, 1) := by decide +kernel
theorem dX7_factorial_12 : decode cX7_factorial 12 = .ok (.istore_n 1, 1) := by decide +kernel
theorem dX7_factorial_13 : decode cX7_factorial 13 = .ok (.iinc 2 1, 3) := by decide +kernel
theorem dX7_factorial_16 : decode cX7_factorial 16 = .ok (.goto (-12), 3) := by decide +kernel
theorem dX7_factorial_19 : decode cX7_factorial 19 = .ok (.iload_n 1, 1) := by decide +kernel
theorem dX7_factorial_20 : decode cX7_factorial 20 = .ok (.ireturn, 1) := by decide +kernel
theorem dX7_fraction_0 : decode cX7_fraction 0 = .ok (.iload_n 0, 1) := by decide +kernel
theorem dX7_fraction_1 : decode cX7_fraction 1 = .ok (.ifCond .ge 8, 3) := by decide +kernel
theorem dX7_fraction_4 : decode cX7_fraction 4 = .ok (.iload_n 0, 1) := by decide +kernel
theorem dX7_fraction_5 : decode cX7_fraction 5 = .ok (.ineg, 1) := by decide +kernel
theorem dX7_fraction_6 : decode cX7_fraction 6 = .ok (.goto 4, 3) := by decide +kernel
theorem dX7_fraction_9 : decode cX7_fraction 9 = .ok (.iload_n 0, 1) := by decide +kernel
theorem dX7_fraction_10 : decode cX7_fraction 10 = .ok (.istore_n 3, 1) := by decide +kernel
theorem dX7_fraction_11 : decode cX7_fraction 11 = .ok (.iload_n 1, 1) := by decide +kernel
theorem dX7_fraction_12 : decode cX7_fraction 12 = .ok (.istore 4, 2) := by decide +kernel
theorem dX7_fraction_14 : decode cX7_fraction 14 = .ok (.iload 4, 2) := by decide +kernel
theorem dX7_fraction_16 : decode cX7_fraction 16 = .ok (.ifCond .eq 19, 3) := by decide +kernel
theorem dX7_fraction_19 : decode cX7_fraction 19 = .ok (.iload_n 3, 1) := by decide +kernel
theorem dX7_fraction_20 : decode cX7_fraction 20 = .ok (.iload 4, 2) := by decide +kernel
theorem dX7_fraction_22 : decode cX7_fraction 22 = .ok (.irem, 1) := by decide +kernel
theorem dX7_fraction_23 : decode cX7_fraction 23 = .ok (.istore 5, 2) := by decide +kernel
theorem dX7_fraction_25 : decode cX7_fraction 25 = .ok (.iload 4, 2) := by decide +kernel
theorem dX7_fraction_27 : decode cX7_fraction 27 = .ok (.istore_n 3, 1) := by decide +kernel
theorem dX7_fraction_28 : decode cX7_fraction 28 = .ok (.iload 5, 2) := by decide +kernel
theorem dX7_fraction_30 : decode cX7_fraction 30 = .ok (.istore 4, 2) := by decide +kernel
theorem dX7_fraction_32 : decode cX7_fraction 32 = .ok (.goto (-18), 3) := by decide +kernel
theorem dX7_fraction_35 : decode cX7_fraction 35 = .ok (.iload_n 2, 1) := by decide +kernel
theorem dX7_fraction_36 : decode cX7_fraction 36 = .ok (.ifCond .eq 9, 3) := by decide +kernel
theorem dX7_fraction_39 : decode cX7_fraction 39 = .ok (.iload_n 0, 1) := by decide +kernel
theorem dX7_fraction_40 : decode cX7_fraction 40 = .ok (.iload_n 3, 1) := by decide +kernel
theorem dX7_fraction_41 : decode cX7_fraction 41 = .ok (.idiv, 1) := by decide +kernel
theorem dX7_fraction_42 : decode cX7_fraction 42 = .ok (.goto 6, 3) := by decide +kernel
theorem dX7_fraction_45 : decode cX7_fraction 45 = .ok (.iload_n 1, 1) := by decide +kernel
theorem dX7_fraction_46 : decode cX7_fraction 46 = .ok (.iload_n 3, 1) := by decide +kernel
theorem dX7_fraction_47 : decode cX7_fraction 47 = .ok (.idiv, 1) := by decide +kernel
theorem dX7_fraction_48 : decode cX7_fraction 48 = .ok (.ireturn, 1) := by decide +kernel
theorem dX7_isPost_0 : decode cX7_isPost 0 = .ok (.iload_n 1, 1) := by decide +kernel
theorem dX7_isPost_1 : decode cX7_isPost 1 = .ok (.iconst 0, 1) := by decide +kernel
theorem dX7_isPost_2 : decode cX7_isPost 2 = .ok (.aload_n 0, 1) := by decide +kernel
theorem dX7_isPost_3 : decode cX7_isPost 3 = .ok (.getfield 90, 3) := by decide +kernel
theorem dX7_isPost_6 : decode cX7_isPost 6 = .ok (.iconst 1, 1) := by decide +kernel
theorem dX7_isPost_7 : decode cX7_isPost 7 = .ok (.isub, 1) := by decide +kernel
theorem dX7_isPost_8 : decode cX7_isPost 8 = .ok (.invokestatic 93, 3) := by decide +kernel
theorem dX7_isPost_11 : decode cX7_isPost 11 = .ok (.ireturn, 1) := by decide +kernel
theorem dX7_isCar_0 : decode cX7_isCar 0 = .ok (.iload_n 1, 1) := by decide +kernel
theorem dX7_isCar_1 : decode cX7_isCar 1 = .ok (.iconst 0, 1) := by decide +kernel
theorem dX7_isCar_2 : decode cX7_isCar 2 = .ok (.aload_n 0, 1) := by decide +kernel
theorem dX7_isCar_3 : decode cX7_isCar 3 = .ok (.getfield 97, 3) := by decide +kernel
theorem dX7_isCar_6 : decode cX7_isCar 6 = .ok (.iconst 1, 1) := by decide +kernel
theorem dX7_isCar_7 : decode cX7_isCar 7 = .ok (.isub, 1) := by decide +kernel
theorem dX7_isCar_8 : decode cX7_isCar 8 = .ok (.invokestatic 93, 3) := by decide +kernel
theorem dX7_isCar_11 : decode cX7_isCar 11 = .ok (.ireturn, 1) := by decide +kernel
theorem dX7_write_0 : decode cX7_write 0 = .ok (.iload_n 1, 1) := by decide +kernel
theorem dX7_write_1 : decode cX7_write 1 = .ok (.iconst 0, 1) := by decide +kernel
theorem dX7_write_2 : decode cX7_write 2 = .ok (.sipush 255, 3) := by decide +kernel
theorem dX7_write_5 : decode cX7_write 5 = .ok (.invokestatic 93, 3) := by decide +kernel
theorem dX7_write_8 : decode cX7_write 8 = .ok (.ifCond .ne 6, 3) := by decide +kernel
theorem dX7_write_11 : decode cX7_write 11 = .ok (.bipush (-2), 2) := by decide +kernel
theorem dX7_write_13 : decode cX7_write 13 = .ok (.ireturn, 1) := by decide +kernel
theorem dX7_write_14 : decode cX7_write 14 = .ok (.aload_n 0, 1) := by decide +kernel
theorem dX7_write_15 : decode cX7_write 15 = .ok (.getfield 100, 3) := by decide +kernel
theorem dX7_write_18 : decode cX7_write 18 = .ok (.bipush 70, 2) := by decide +kernel
theorem dX7_write_20 : decode cX7_write 20 = .ok (.if_icmp .ne 6, 3) := by decide +kernel
theorem dX7_write_23 : decode cX7_write 23 = .ok (.bipush (-4), 2) := by decide +kernel
theorem dX7_write_25 : decode cX7_write 25 = .ok (.ireturn, 1) := by decide +kernel
theorem dX7_write_26 : decode cX7_write 26 = .ok (.aload_n 0, 1) := by decide +kernel
theorem dX7_write_27 : decode cX7_write 27 = .ok (.getfield 7, 3) := by decide +kernel
theorem dX7_write_30 : decode cX7_write 30 = .ok (.aload_n 0, 1) := by decide +kernel
theorem dX7_write_31 : decode cX7_write 31 = .ok (.getfield 100, 3) := by decide +kernel
theorem dX7_write_34 : decode cX7_write 34 = .ok (.iload_n 1, 1) := by decide +kernel
theorem dX7_write_35 : decode cX7_write 35 = .ok (.iastore, 1) := by decide +kernel
theorem dX7_write_36 : decode cX7_write 36 = .ok (.aload_n 0, 1) := by decide +kernel
theorem dX7_write_37 : decode cX7_write 37 = .ok (.dup, 1) := by decide +kernel
theorem dX7_write_38 : decode cX7_write 38 = .ok (.getfield 100, 3) := by decide +kernel
theorem dX7_write_41 : decode cX7_write 41 = .ok (.iconst 1, 1) := by decide +kernel
theorem dX7_write_42 : decode cX7_write 42 = .ok (.iadd, 1) := by decide +kernel
theorem dX7_write_43 : decode cX7_write 43 = .ok (.putfield 100, 3) := by decide +kernel
theorem dX7_write_46 : decode cX7_write 46 = .ok (.aload_n 0, 1) := by decide +kernel
theorem dX7_write_47 : decode cX7_write 47 = .ok (.getfield 100, 3) := by decide +kernel
theorem dX7_write_50 : decode cX7_write 50 = .ok (.ireturn, 1) := by decide +kernel
theorem dX7_wipe_0 : decode cX7_wipe 0 = .ok (.aload_n 0, 1) := by decide +kernel
theorem dX7_wipe_1 : decode cX7_wipe 1 = .ok (.getfield 100, 3) := by decide +kernel
theorem dX7_wipe_4 : decode cX7_wipe 4 = .ok (.istore_n 1, 1) := by decide +kernel
theorem dX7_wipe_5 : decode cX7_wipe 5 = .ok (.aload_n 0, 1) := by decide +kernel
theorem dX7_wipe_6 : decode cX7_wipe 6 = .ok (.iconst 0, 1) := by decide +kernel
theorem dX7_wipe_7 : decode cX7_wipe 7 = .ok (.putfield 100, 3) := by decide +kernel
theorem dX7_wipe_10 : decode cX7_wipe 10 = .ok (.iload_n 1, 1) := by decide +kernel
theorem dX7_wipe_11 : decode cX7_wipe 11 = .ok (.ireturn, 1) := by decide +kernel
theorem dX7_takeHead_0 : decode cX7_takeHead 0 = .ok (.aload_n 0, 1) := by decide +kernel
theorem dX7_takeHead_1 : decode cX7_takeHead 1 = .ok (.dup, 1) := by decide +kernel
theorem dX7_takeHead_2 : decode cX7_takeHead 2 = .ok (.getfield 103, 3) := by decide +kernel
theorem dX7_takeHead_5 : decode cX7_takeHead 5 = .ok (.iconst 1, 1) := by decide +kernel
theorem dX7_takeHead_6 : decode cX7_takeHead 6 = .ok (.iadd, 1) := by decide +kernel
theorem dX7_takeHead_7 : decode cX7_takeHead 7 = .ok (.putfield 103, 3) := by decide +kernel
theorem dX7_takeHead_10 : decode cX7_takeHead 10 = .ok (.aload_n 0, 1) := by decide +kernel
theorem dX7_takeHead_11 : decode cX7_takeHead 11 = .ok (.getfield 103, 3) := by decide +kernel
theorem dX7_takeHead_14 : decode cX7_takeHead 14 = .ok (.iconst 3, 1) := by decide +kernel
theorem dX7_takeHead_15 : decode cX7_takeHead 15 = .ok (.if_icmp .ge 24, 3) := by decide +kernel
theorem dX7_takeHead_18 : decode cX7_takeHead 18 = .ok (.aload_n 0, 1) := by decide +kernel
theorem dX7_takeHead_19 : decode cX7_takeHead 19 = .ok (.bipush 10, 2) := by decide +kernel
theorem dX7_takeHead_21 : decode cX7_takeHead 21 = .ok (.aload_n 0, 1) := by decide +kernel
theorem dX7_takeHead_22 : decode cX7_takeHead 22 = .ok (.getfield 106, 3) := by decide +kernel
theorem dX7_takeHead_25 : decode cX7_takeHead 25 = .ok (.imul, 1) := by decide +kernel
theorem dX7_takeHead_26 : decode cX7_takeHead 26 = .ok (.iload_n 1, 1) := by decide +kernel
theorem dX7_takeHead_27 : decode cX7_takeHead 27 = .ok (.iadd, 1) := by decide +kernel
theorem dX7_takeHead_28 : decode cX7_takeHead 28 = .ok (.putfield 106, 3) := by decide +kernel
theorem dX7_takeHead_31 : decode cX7_takeHead 31 = .ok (.iload_n 1, 1) := by decide +kernel
theorem dX7_takeHead_32 : decode cX7_takeHead 32 = .ok (.iconst 0, 1) := by decide +kernel
theorem dX7_takeHead_33 : decode cX7_takeHead 33 = .ok (.bipush 9, 2) := by decide +kernel
theorem dX7_takeHead_35 : decode cX7_takeHead 35 = .ok (.invokestatic 93, 3) := by decide +kernel
theorem dX7_takeHead_38 : decode cX7_takeHead 38 = .ok (.ireturn, 1) := by decide +kernel
theorem dX7_takeHead_39 : decode cX7_takeHead 39 = .ok (.aload_n 0, 1) := by decide +kernel
theorem dX7_takeHead_40 : decode cX7_takeHead 40 = .ok (.iconst 0, 1) := by decide +kernel
theorem dX7_takeHead_41 : decode cX7_takeHead 41 = .ok (.putfield 109, 3) := by decide +kernel
theorem dX7_takeHead_44 : decode cX7_takeHead 44 = .ok (.aload_n 0, 1) := by decide +kernel
theorem dX7_takeHead_45 : decode cX7_takeHead 45 = .ok (.iload_n 1, 1) := by decide +kernel
theorem dX7_takeHead_46 : decode cX7_takeHead 46 = .ok (.putfield 112, 3) := by decide +kernel
theorem dX7_takeHead_49 : decode cX7_takeHead 49 = .ok (.iload_n 1, 1) := by decide +kernel
theorem dX7_takeHead_50 : decode cX7_takeHead 50 = .ok (.iconst 1, 1) := by decide +kernel
theorem dX7_takeHead_51 : decode cX7_takeHead 51 = .ok (.bipush 9, 2) := by decide +kernel
theorem dX7_takeHead_53 : decode cX7_takeHead 53 = .ok (.invokestatic 93, 3) := by decide +kernel
theorem dX7_takeHead_56 : decode cX7_takeHead 56 = .ok (.ireturn, 1) := by decide +kernel
theorem dX7_takeOfCar_0 : decode cX7_takeOfCar 0 = .ok (.aload_n 0, 1) := by decide +kernel
theorem dX7_takeOfCar_1 : decode cX7_takeOfCar 1 = .ok (.getfield 115, 3) := by decide +kernel
theorem dX7_takeOfCar_4 : decode cX7_takeOfCar 4 = .ok (.istore_n 2, 1) := by decide +kernel
theorem dX7_takeOfCar_5 : decode cX7_takeOfCar 5 = .ok (.aload_n 0, 1) := by decide +kernel
theorem dX7_takeOfCar_6 : decode cX7_takeOfCar 6 = .ok (.dup, 1) := by decide +kernel
theorem dX7_takeOfCar_7 : decode cX7_takeOfCar 7 = .ok (.getfield 103, 3) := by decide +kernel
theorem dX7_takeOfCar_10 : decode cX7_takeOfCar 10 = .ok (.iconst 1, 1) := by decide +kernel
theorem dX7_takeOfCar_11 : decode cX7_takeOfCar 11 = .ok (.iadd, 1) := by decide +kernel
theorem dX7_takeOfCar_12 : decode cX7_takeOfCar 12 = .ok (.putfield 103, 3) := by decide +kernel
theorem dX7_takeOfCar_15 : decode cX7_takeOfCar 15 = .ok (.aload_n 0, 1) := by decide +kernel
theorem dX7_takeOfCar_16 : decode cX7_takeOfCar 16 = .ok (.getfield 103, 3) := by decide +kernel
theorem dX7_takeOfCar_19 : decode cX7_takeOfCar 19 = .ok (.tableswitch 116 1 4 #[29, 44, 86, 101], 29) := by decide +kernel
theorem dX7_takeOfCar_48 : decode cX7_takeOfCar 48 = .ok (.aload_n 0, 1) := by decide +kernel
theorem dX7_takeOfCar_49 : decode cX7_takeOfCar 49 = .ok (.getfield 65, 3) := by decide +kernel
theorem dX7_takeOfCar_52 : decode cX7_takeOfCar 52 = .ok (.iload_n 2, 1) := by decide +kernel
theorem dX7_takeOfCar_53 : decode cX7_takeOfCar 53 = .ok (.iload_n 1, 1) := by decide +kernel
theorem dX7_takeOfCar_54 : decode cX7_takeOfCar 54 = .ok (.iastore, 1) := by decide +kernel
theorem dX7_takeOfCar_55 : decode cX7_takeOfCar 55 = .ok (.iload_n 1, 1) := by decide +kernel
theorem dX7_takeOfCar_56 : decode cX7_takeOfCar 56 = .ok (.iconst 0, 1) := by decide +kernel
theorem dX7_takeOfCar_57 : decode cX7_takeOfCar 57 = .ok (.bipush 9, 2) := by decide +kernel
theorem dX7_takeOfCar_59 : decode cX7_takeOfCar 59 = .ok (.invokestatic 93, 3) := by decide +kernel
theorem dX7_takeOfCar_62 : decode cX7_takeOfCar 62 = .ok (.ireturn, 1) := by decide +kernel
theorem dX7_takeOfCar_63 : decode cX7_takeOfCar 63 = .ok (.aload_n 0, 1) := by decide +kernel
theorem dX7_takeOfCar_64 : decode cX7_takeOfCar 64 = .ok (.getfield 65, 3) := by decide +kernel
theorem dX7_takeOfCar_67 : decode cX7_takeOfCar 67 = .ok (.iload_n 2, 1) := by decide +kernel
theorem dX7_takeOfCar_68 : decode cX7_takeOfCar 68 = .ok (.bipush 10, 2) := by decide +kernel
theorem dX7_takeOfCar_70 : decode cX7_takeOfCar 70 = .ok (.aload_n 0, 1) := by decide +kernel
theorem dX7_takeOfCar_71 : decode cX7_takeOfCar 71 = .ok (.getfield 65, 3) := by decide +kernel
theorem dX7_takeOfCar_74 : decode cX7_takeOfCar 74 = .ok (.iload_n 2, 1) := by decide +kernel
theorem dX7_takeOfCar_75 : decode cX7_takeOfCar 75 = .ok (.iaload, 1) := by decide +kernel
theorem dX7_takeOfCar_76 : decode cX7_takeOfCar 76 = .ok (.imul, 1) := by decide +kernel
theorem dX7_takeOfCar_77 : decode cX7_takeOfCar 77 = .ok (.iload_n 1, 1) := by decide +kernel
theorem dX7_takeOfCar_78 : decode cX7_takeOfCar 78 = .ok (.iadd, 1) := by decide +kernel
theorem dX7_takeOfCar_79 : decode cX7_takeOfCar 79 = .ok (.iastore, 1) := by decide +kernel
theorem dX7_takeOfCar_80 : decode cX7_takeOfCar 80 = .ok (.iload_n 1, 1) := by decide +kernel
theorem dX7_takeOfCar_81 : decode cX7_takeOfCar 81 = .ok (.iconst 0, 1) := by decide +kernel
theorem dX7_takeOfCar_82 : decode cX7_takeOfCar 82 = .ok (.bipush 9, 2) := by decide +kernel
theorem dX7_takeOfCar_84 : decode cX7_takeOfCar 84 = .ok (.invokestatic 93, 3) := by decide +kernel
theorem dX7_takeOfCar_87 : decode cX7_takeOfCar 87 = .ok (.ifCond .eq 16, 3) := by decide +kernel
theorem dX7_takeOfCar_90 : decode cX7_takeOfCar 90 = .ok (.aload_n 0, 1) := by decide +kernel
theorem dX7_takeOfCar_91 : decode cX7_takeOfCar 91 = .ok (.getfield 65, 3) := by decide +kernel
theorem dX7_takeOfCar_94 : decode cX7_takeOfCar 94 = .ok (.iload_n 2, 1) := by decide +kernel
theorem dX7_takeOfCar_95 : decode cX7_takeOfCar 95 = .ok (.iaload, 1) := by decide +kernel
theorem dX7_takeOfCar_96 : decode cX7_takeOfCar 96 = .ok (.ifCond .le 7, 3) := by decide +kernel
theorem dX7_takeOfCar_99 : decode cX7_takeOfCar 99 = .ok (.iconst 1, 1) := by decide +kernel
theorem dX7_takeOfCar_100 : decode cX7_takeOfCar 100 = .ok (.goto 4, 3) := by decide +kernel
theorem dX7_takeOfCar_103 : decode cX7_takeOfCar 103 = .ok (.iconst 0, 1) := by decide +kernel
theorem dX7_takeOfCar_104 : decode cX7_takeOfCar 104 = .ok (.ireturn, 1) := by decide +kernel
theorem dX7_takeOfCar_105 : decode cX7_takeOfCar 105 = .ok (.aload_n 0, 1) := by decide +kernel
theorem dX7_takeOfCar_106 : decode cX7_takeOfCar 106 = .ok (.getfield 68, 3) := by decide +kernel
theorem dX7_takeOfCar_109 : decode cX7_takeOfCar 109 = .ok (.iload_n 2, 1) := by decide +kernel
theorem dX7_takeOfCar_110 : decode cX7_takeOfCar 110 = .ok (.iload_n 1, 1) := by decide +kernel
theorem dX7_takeOfCar_111 : decode cX7_takeOfCar 111 = .ok (.iastore, 1) := by decide +kernel
theorem dX7_takeOfCar_112 : decode cX7_takeOfCar 112 = .ok (.iload_n 1, 1) := by decide +kernel
theorem dX7_takeOfCar_113 : decode cX7_takeOfCar 113 = .ok (.iconst 1, 1) := by decide +kernel
theorem dX7_takeOfCar_114 : decode cX7_takeOfCar 114 = .ok (.bipush 9, 2) := by decide +kernel
theorem dX7_takeOfCar_116 : decode cX7_takeOfCar 116 = .ok (.invokestatic 93, 3) := by decide +kernel
theorem dX7_takeOfCar_119 : decode cX7_takeOfCar 119 = .ok (.ireturn, 1) := by decide +kernel
theorem dX7_takeOfCar_120 : decode cX7_takeOfCar 120 = .ok (.aload_n 0, 1) := by decide +kernel
theorem dX7_takeOfCar_121 : decode cX7_takeOfCar 121 = .ok (.getfield 71, 3) := by decide +kernel
theorem dX7_takeOfCar_124 : decode cX7_takeOfCar 124 = .ok (.iload_n 2, 1) := by decide +kernel
theorem dX7_takeOfCar_125 : decode cX7_takeOfCar 125 = .ok (.iload_n 1, 1) := by decide +kernel
theorem dX7_takeOfCar_126 : decode cX7_takeOfCar 126 = .ok (.iastore, 1) := by decide +kernel
theorem dX7_takeOfCar_127 : decode cX7_takeOfCar 127 = .ok (.iload_n 1, 1) := by decide +kernel
theorem dX7_takeOfCar_128 : decode cX7_takeOfCar 128 = .ok (.iconst 0, 1) := by decide +kernel
theorem dX7_takeOfCar_129 : decode cX7_takeOfCar 129 = .ok (.bipush 9, 2) := by decide +kernel
theorem dX7_takeOfCar_131 : decode cX7_takeOfCar 131 = .ok (.invokestatic 93, 3) := by decide +kernel
theorem dX7_takeOfCar_134 : decode cX7_takeOfCar 134 = .ok (.ireturn, 1) := by decide +kernel
theorem dX7_takeOfCar_135 : decode cX7_takeOfCar 135 = .ok (.aload_n 0, 1) := by decide +kernel
theorem dX7_takeOfCar_136 : decode cX7_takeOfCar 136 = .ok (.getfield 74, 3) := by decide +kernel
theorem dX7_takeOfCar_139 : decode cX7_takeOfCar 139 = .ok (.iload_n 2, 1) := by decide +kernel
theorem dX7_takeOfCar_140 : decode cX7_takeOfCar 140 = .ok (.iload_n 1, 1) := by decide +kernel
theorem dX7_takeOfCar_141 : decode cX7_takeOfCar 141 = .ok (.iastore, 1) := by decide +kernel
theorem dX7_takeOfCar_142 : decode cX7_takeOfCar 142 = .ok (.aload_n 0, 1) := by decide +kernel
theorem dX7_takeOfCar_143 : decode cX7_takeOfCar 143 = .ok (.iconst 0, 1) := by decide +kernel
theorem dX7_takeOfCar_144 : decode cX7_takeOfCar 144 = .ok (.putfield 109, 3) := by decide +kernel
theorem dX7_takeOfCar_147 : decode cX7_takeOfCar 147 = .ok (.aload_n 0, 1) := by decide +kernel
theorem dX7_takeOfCar_148 : decode cX7_takeOfCar 148 = .ok (.dup, 1) := by decide +kernel
theorem dX7_takeOfCar_149 : decode cX7_takeOfCar 149 = .ok (.getfield 115, 3) := by decide +kernel
theorem dX7_takeOfCar_152 : decode cX7_takeOfCar 152 = .ok (.iconst 1, 1) := by decide +kernel
theorem dX7_takeOfCar_153 : decode cX7_takeOfCar 153 = .ok (.iadd, 1) := by decide +kernel
theorem dX7_takeOfCar_154 : decode cX7_takeOfCar 154 = .ok (.putfield 115, 3) := by decide +kernel
theorem dX7_takeOfCar_157 : decode cX7_takeOfCar 157 = .ok (.iload_n 1, 1) := by decide +kernel
theorem dX7_takeOfCar_158 : decode cX7_takeOfCar 158 = .ok (.iconst 0, 1) := by decide +kernel
theorem dX7_takeOfCar_159 : decode cX7_takeOfCar 159 = .ok (.iconst 2, 1) := by decide +kernel
theorem dX7_takeOfCar_160 : decode cX7_takeOfCar 160 = .ok (.invokestatic 93, 3) := by decide +kernel
theorem dX7_takeOfCar_163 : decode cX7_takeOfCar 163 = .ok (.ireturn, 1) := by decide +kernel
theorem dX7_take_0 : decode cX7_take 0 = .ok (.iload_n 1, 1) := by decide +kernel
theorem dX7_take_1 : decode cX7_take 1 = .ok (.bipush 48, 2) := by decide +kernel
theorem dX7_take_3 : decode cX7_take 3 = .ok (.isub, 1) := by decide +kernel
theorem dX7_take_4 : decode cX7_take 4 = .ok (.istore_n 2, 1) := by decide +kernel
theorem dX7_take_5 : decode cX7_take 5 = .ok (.aload_n 0, 1) := by decide +kernel
theorem dX7_take_6 : decode cX7_take 6 = .ok (.getfield 109, 3) := by decide +kernel
theorem dX7_take_9 : decode cX7_take 9 = .ok (.bipush 70, 2) := by decide +kernel
theorem dX7_take_11 : decode cX7_take 11 = .ok (.if_icmp .ne 9, 3) := by decide +kernel
theorem dX7_take_14 : decode cX7_take 14 = .ok (.aload_n 0, 1) := by decide +kernel
theorem dX7_take_15 : decode cX7_take 15 = .ok (.iload_n 2, 1) := by decide +kernel
theorem dX7_take_16 : decode cX7_take 16 = .ok (.invokevirtual 118, 3) := by decide +kernel
theorem dX7_take_19 : decode cX7_take 19 = .ok (.ireturn, 1) := by decide +kernel
theorem dX7_take_20 : decode cX7_take 20 = .ok (.aload_n 0, 1) := by decide +kernel
theorem dX7_take_21 : decode cX7_take 21 = .ok (.getfield 109, 3) := by decide +kernel
theorem dX7_take_24 : decode cX7_take 24 = .ok (.bipush 99, 2) := by decide +kernel
theorem dX7_take_26 : decode cX7_take 26 = .ok (.if_icmp .ne 9, 3) := by decide +kernel
theorem dX7_take_29 : decode cX7_take 29 = .ok (.aload_n 0, 1) := by decide +kernel
theorem dX7_take_30 : decode cX7_take 30 = .ok (.iload_n 2, 1) := by decide +kernel
theorem dX7_take_31 : decode cX7_take 31 = .ok (.invokevirtual 122, 3) := by decide +kernel
theorem dX7_take_34 : decode cX7_take 34 = .ok (.ireturn, 1) := by decide +kernel
theorem dX7_take_35 : decode cX7_take 35 = .ok (.aload_n 0, 1) := by decide +kernel
theorem dX7_take_36 : decode cX7_take 36 = .ok (.getfield 109, 3) := by decide +kernel
theorem dX7_take_39 : decode cX7_take 39 = .ok (.bipush 112, 2) := by decide +kernel
theorem dX7_take_41 : decode cX7_take 41 = .ok (.if_icmp .ne 36, 3) := by decide +kernel
theorem dX7_take_44 : decode cX7_take 44 = .ok (.aload_n 0, 1) := by decide +kernel
theorem dX7_take_45 : decode cX7_take 45 = .ok (.getfield 62, 3) := by decide +kernel
theorem dX7_take_48 : decode cX7_take 48 = .ok (.aload_n 0, 1) := by decide +kernel
theorem dX7_take_49 : decode cX7_take 49 = .ok (.getfield 125, 3) := by decide +kernel
theorem dX7_take_52 : decode cX7_take 52 = .ok (.iload_n 2, 1) := by decide +kernel
theorem dX7_take_53 : decode cX7_take 53 = .ok (.iastore, 1) := by decide +kernel
theorem dX7_take_54 : decode cX7_take 54 = .ok (.aload_n 0, 1) := by decide +kernel
theorem dX7_take_55 : decode cX7_take 55 = .ok (.dup, 1) := by decide +kernel
theorem dX7_take_56 : decode cX7_take 56 = .ok (.getfield 125, 3) := by decide +kernel
theorem dX7_take_59 : decode cX7_take 59 = .ok (.iconst 1, 1) := by decide +kernel
theorem dX7_take_60 : decode cX7_take 60 = .ok (.iadd, 1) := by decide +kernel
theorem dX7_take_61 : decode cX7_take 61 = .ok (.putfield 125, 3) := by decide +kernel
theorem dX7_take_64 : decode cX7_take 64 = .ok (.aload_n 0, 1) := by decide +kernel
theorem dX7_take_65 : decode cX7_take 65 = .ok (.iconst 0, 1) := by decide +kernel
theorem dX7_take_66 : decode cX7_take 66 = .ok (.putfield 109, 3) := by decide +kernel
theorem dX7_take_69 : decode cX7_take 69 = .ok (.iload_n 2, 1) := by decide +kernel
theorem dX7_take_70 : decode cX7_take 70 = .ok (.iconst 1, 1) := by decide +kernel
theorem dX7_take_71 : decode cX7_take 71 = .ok (.bipush 9, 2) := by decide +kernel
theorem dX7_take_73 : decode cX7_take 73 = .ok (.invokestatic 93, 3) := by decide +kernel
theorem dX7_take_76 : decode cX7_take 76 = .ok (.ireturn, 1) := by decide +kernel
theorem dX7_take_77 : decode cX7_take 77 = .ok (.aload_n 0, 1) := by decide +kernel
theorem dX7_take_78 : decode cX7_take 78 = .ok (.iload_n 1, 1) := by decide +kernel
theorem dX7_take_79 : decode cX7_take 79 = .ok (.putfield 109, 3) := by decide +kernel
theorem dX7_take_82 : decode cX7_take 82 = .ok (.aload_n 0, 1) := by decide +kernel
theorem dX7_take_83 : decode cX7_take 83 = .ok (.iconst 0, 1) := by decide +kernel
theorem dX7_take_84 : decode cX7_take 84 = .ok (.putfield 103, 3) := by decide +kernel
theorem dX7_take_87 : decode cX7_take 87 = .ok (.iload_n 1, 1) := by decide +kernel
theorem dX7_take_88 : decode cX7_take 88 = .ok (.bipush 112, 2) := by decide +kernel
theorem dX7_take_90 : decode cX7_take 90 = .ok (.if_icmp .ne 11, 3) := by decide +kernel
theorem dX7_take_93 : decode cX7_take 93 = .ok (.aload_n 0, 1) := by decide +kernel
theorem dX7_take_94 : decode cX7_take 94 = .ok (.getfield 125, 3) := by decide +kernel
theorem dX7_take_97 : decode cX7_take 97 = .ok (.iconst 4, 1) := by decide +kernel
theorem dX7_take_98 : decode cX7_take 98 = .ok (.if_icmp .lt 18, 3) := by decide +kernel
theorem dX7_take_101 : decode cX7_take 101 = .ok (.iload_n 1, 1) := by decide +kernel
theorem dX7_take_102 : decode cX7_take 102 = .ok (.bipush 99, 2) := by decide +kernel
theorem dX7_take_104 : decode cX7_take 104 = .ok (.if_icmp .ne 16, 3) := by decide +kernel
theorem dX7_take_107 : decode cX7_take 107 = .ok (.aload_n 0, 1) := by decide +kernel
theorem dX7_take_108 : decode cX7_take 108 = .ok (.getfield 115, 3) := by decide +kernel
theorem dX7_take_111 : decode cX7_take 111 = .ok (.bipush 6, 2) := by decide +kernel
theorem dX7_take_113 : decode cX7_take 113 = .ok (.if_icmp .ge 7, 3) := by decide +kernel
theorem dX7_take_116 : decode cX7_take 116 = .ok (.iconst 1, 1) := by decide +kernel
theorem dX7_take_117 : decode cX7_take 117 = .ok (.goto 4, 3) := by decide +kernel
theorem dX7_take_120 : decode cX7_take 120 = .ok (.iconst 0, 1) := by decide +kernel
theorem dX7_take_121 : decode cX7_take 121 = .ok (.ireturn, 1) := by decide +kernel
theorem dX7_readText_0 : decode cX7_readText 0 = .ok (.aload_n 0, 1) := by decide +kernel
theorem dX7_readText_1 : decode cX7_readText 1 = .ok (.iconst 0, 1) := by decide +kernel
theorem dX7_readText_2 : decode cX7_readText 2 = .ok (.putfield 106, 3) := by decide +kernel
theorem dX7_readText_5 : decode cX7_readText 5 = .ok (.aload_n 0, 1) := by decide +kernel
theorem dX7_readText_6 : decode cX7_readText 6 = .ok (.iconst 0, 1) := by decide +kernel
theorem dX7_readText_7 : decode cX7_readText 7 = .ok (.putfield 125, 3) := by decide +kernel
theorem dX7_readText_10 : decode cX7_readText 10 = .ok (.aload_n 0, 1) := by decide +kernel
theorem dX7_readText_11 : decode cX7_readText 11 = .ok (.iconst 0, 1) := by decide +kernel
theorem dX7_readText_12 : decode cX7_readText 12 = .ok (.putfield 115, 3) := by decide +kernel
theorem dX7_readText_15 : decode cX7_readText 15 = .ok (.aload_n 0, 1) := by decide +kernel
theorem dX7_readText_16 : decode cX7_readText 16 = .ok (.bipush 70, 2) := by decide +kernel
theorem dX7_readText_18 : decode cX7_readText 18 = .ok (.putfield 109, 3) := by decide +kernel
theorem dX7_readText_21 : decode cX7_readText 21 = .ok (.aload_n 0, 1) := by decide +kernel
theorem dX7_readText_22 : decode cX7_readText 22 = .ok (.iconst 0, 1) := by decide +kernel
theorem dX7_readText_23 : decode cX7_readText 23 = .ok (.putfield 103, 3) := by decide +kernel
theorem dX7_readText_26 : decode cX7_readText 26 = .ok (.aload_n 0, 1) := by decide +kernel
theorem dX7_readText_27 : decode cX7_readText 27 = .ok (.getfield 100, 3) := by decide +kernel
theorem dX7_readText_30 : decode cX7_readText 30 = .ok (.ifCond .eq 14, 3) := by decide +kernel
theorem dX7_readText_33 : decode cX7_readText 33 = .ok (.aload_n 0, 1) := by decide +kernel
theorem dX7_readText_34 : decode cX7_readText 34 = .ok (.getfield 7, 3) := by decide +kernel
theorem dX7_readText_37 : decode cX7_readText 37 = .ok (.iconst 0, 1) := by decide +kernel
theorem dX7_readText_38 : decode cX7_readText 38 = .ok (.iaload, 1) := by decide +kernel
theorem dX7_readText_39 : decode cX7_readText 39 = .ok (.bipush 70, 2) := by decide +kernel
theorem dX7_readText_41 : decode cX7_readText 41 = .ok (.if_icmp .eq 5, 3) := by decide +kernel
theorem dX7_readText_44 : decode cX7_readText 44 = .ok (.iconst 0, 1) := by decide +kernel
theorem dX7_readText_45 : decode cX7_readText 45 = .ok (.ireturn, 1) := by decide +kernel
theorem dX7_readText_46 : decode cX7_readText 46 = .ok (.iconst 1, 1) := by decide +kernel
theorem dX7_readText_47 : decode cX7_readText 47 = .ok (.istore_n 1, 1) := by decide +kernel
theorem dX7_readText_48 : decode cX7_readText 48 = .ok (.iload_n 1, 1) := by decide +kernel
theorem dX7_readText_49 : decode cX7_readText 49 = .ok (.aload_n 0, 1) := by decide +kernel
theorem dX7_readText_50 : decode cX7_readText 50 = .ok (.getfield 100, 3) := by decide +kernel
theorem dX7_readText_53 : decode cX7_readText 53 = .ok (.if_icmp .ge 24, 3) := by decide +kernel
theorem dX7_readText_56 : decode cX7_readText 56 = .ok (.aload_n 0, 1) := by decide +kernel
theorem dX7_readText_57 : decode cX7_readText 57 = .ok (.aload_n 0, 1) := by decide +kernel
theorem dX7_readText_58 : decode cX7_readText 58 = .ok (.getfield 7, 3) := by decide +kernel
theorem dX7_readText_61 : decode cX7_readText 61 = .ok (.iload_n 1, 1) := by decide +kernel
theorem dX7_readText_62 : decode cX7_readText 62 = .ok (.iaload, 1) := by decide +kernel
theorem dX7_readText_63 : decode cX7_readText 63 = .ok (.invokevirtual 128, 3) := by decide +kernel
theorem dX7_readText_66 : decode cX7_readText 66 = .ok (.ifCond .ne 5, 3) := by decide +kernel
theorem dX7_readText_69 : decode cX7_readText 69 = .ok (.iload_n 1, 1) := by decide +kernel
theorem dX7_readText_70 : decode cX7_readText 70 = .ok (.ireturn, 1) := by decide +kernel
theorem dX7_readText_71 : decode cX7_readText 71 = .ok (.iinc 1 1, 3) := by decide +kernel
theorem dX7_readText_74 : decode cX7_readText 74 = .ok (.goto (-26), 3) := by decide +kernel
theorem dX7_readText_77 : decode cX7_readText 77 = .ok (.aload_n 0, 1) := by decide +kernel
theorem dX7_readText_78 : decode cX7_readText 78 = .ok (.getfield 109, 3) := by decide +kernel
theorem dX7_readText_81 : decode cX7_readText 81 = .ok (.ifCond .ne 8, 3) := by decide +kernel
theorem dX7_readText_84 : decode cX7_readText 84 = .ok (.bipush (-9), 2) := by decide +kernel
theorem dX7_readText_86 : decode cX7_readText 86 = .ok (.goto 7, 3) := by decide +kernel
theorem dX7_readText_89 : decode cX7_readText 89 = .ok (.aload_n 0, 1) := by decide +kernel
theorem dX7_readText_90 : decode cX7_readText 90 = .ok (.getfield 100, 3) := by decide +kernel
theorem dX7_readText_93 : decode cX7_readText 93 = .ok (.ireturn, 1) := by decide +kernel
theorem dX7_fault_0 : decode cX7_fault 0 = .ok (.aload_n 0, 1) := by decide +kernel
theorem dX7_fault_1 : decode cX7_fault 1 = .ok (.invokevirtual 131, 3) := by decide +kernel
theorem dX7_fault_4 : decode cX7_fault 4 = .ok (.ireturn, 1) := by decide +kernel
theorem dX7_site_0 : decode cX7_site 0 = .ok (.aload_n 0, 1) := by decide +kernel
theorem dX7_site_1 : decode cX7_site 1 = .ok (.invokevirtual 131, 3) := by decide +kernel
theorem dX7_site_4 : decode cX7_site 4 = .ok (.bipush (-9), 2) := by decide +kernel
theorem dX7_site_6 : decode cX7_site 6 = .ok (.if_icmp .eq 6, 3) := by decide +kernel
theorem dX7_site_9 : decode cX7_site 9 = .ok (.bipush (-3), 2) := by decide +kernel
theorem dX7_site_11 : decode cX7_site 11 = .ok (.ireturn, 1) := by decide +kernel
theorem dX7_site_12 : decode cX7_site 12 = .ok (.aload_n 0, 1) := by decide +kernel
theorem dX7_site_13 : decode cX7_site 13 = .ok (.invokevirtual 87, 3) := by decide +kernel
theorem dX7_site_16 : decode cX7_site 16 = .ok (.aload_n 0, 1) := by decide +kernel
theorem dX7_site_17 : decode cX7_site 17 = .ok (.aload_n 0, 1) := by decide +kernel
theorem dX7_site_18 : decode cX7_site 18 = .ok (.getfield 125, 3) := by decide +kernel
theorem dX7_site_21 : decode cX7_site 21 = .ok (.putfield 90, 3) := by decide +kernel
theorem dX7_site_24 : decode cX7_site 24 = .ok (.aload_n 0, 1) := by decide +kernel
theorem dX7_site_25 : decode cX7_site 25 = .ok (.aload_n 0, 1) := by decide +kernel
theorem dX7_site_26 : decode cX7_site 26 = .ok (.getfield 115, 3) := by decide +kernel
theorem dX7_site_29 : decode cX7_site 29 = .ok (.putfield 97, 3) := by decide +kernel
theorem dX7_site_32 : decode cX7_site 32 = .ok (.aload_n 0, 1) := by decide +kernel
theorem dX7_site_33 : decode cX7_site 33 = .ok (.aload_n 0, 1) := by decide +kernel
theorem dX7_site_34 : decode cX7_site 34 = .ok (.getfield 112, 3) := by decide +kernel
theorem dX7_site_37 : decode cX7_site 37 = .ok (.putfield 77, 3) := by decide +kernel
theorem dX7_site_40 : decode cX7_site 40 = .ok (.aload_n 0, 1) := by decide +kernel
theorem dX7_site_41 : decode cX7_site 41 = .ok (.getfield 28, 3) := by decide +kernel
theorem dX7_site_44 : decode cX7_site 44 = .ok (.bipush 38, 2) := by decide +kernel
theorem dX7_site_46 : decode cX7_site 46 = .ok (.aload_n 0, 1) := by decide +kernel
theorem dX7_site_47 : decode cX7_site 47 = .ok (.getfield 106, 3) := by decide +kernel
theorem dX7_site_50 : decode cX7_site 50 = .ok (.iastore, 1) := by decide +kernel
theorem dX7_site_51 : decode cX7_site 51 = .ok (.iconst 0, 1) := by decide +kernel
theorem dX7_site_52 : decode cX7_site 52 = .ok (.istore_n 1, 1) := by decide +kernel
theorem dX7_site_53 : decode cX7_site 53 = .ok (.iload_n 1, 1) := by decide +kernel
theorem dX7_site_54 : decode cX7_site 54 = .ok (.aload_n 0, 1) := by decide +kernel
theorem dX7_site_55 : decode cX7_site 55 = .ok (.getfield 90, 3) := by decide +kernel
theorem dX7_site_58 : decode cX7_site 58 = .ok (.if_icmp .ge 21, 3) := by decide +kernel
theorem dX7_site_61 : decode cX7_site 61 = .ok (.aload_n 0, 1) := by decide +kernel
theorem dX7_site_62 : decode cX7_site 62 = .ok (.getfield 13, 3) := by decide +kernel
theorem dX7_site_65 : decode cX7_site 65 = .ok (.iload_n 1, 1) := by decide +kernel
theorem dX7_site_66 : decode cX7_site 66 = .ok (.aload_n 0, 1) := by decide +kernel
theorem dX7_site_67 : decode cX7_site 67 = .ok (.getfield 62, 3) := by decide +kernel
theorem dX7_site_70 : decode cX7_site 70 = .ok (.iload_n 1, 1) := by decide +kernel
theorem dX7_site_71 : decode cX7_site 71 = .ok (.iaload, 1) := by decide +kernel
theorem dX7_site_72 : decode cX7_site 72 = .ok (.iastore, 1) := by decide +kernel
theorem dX7_site_73 : decode cX7_site 73 = .ok (.iinc 1 1, 3) := by decide +kernel
theorem dX7_site_76 : decode cX7_site 76 = .ok (.goto (-23), 3) := by decide +kernel
theorem dX7_site_79 : decode cX7_site 79 = .ok (.iconst 0, 1) := by decide +kernel
theorem dX7_site_80 : decode cX7_site 80 = .ok (.istore_n 1, 1) := by decide +kernel
theorem dX7_site_81 : decode cX7_site 81 = .ok (.iload_n 1, 1) := by decide +kernel
theorem dX7_site_82 : decode cX7_site 82 = .ok (.aload_n 0, 1) := by decide +kernel
theorem dX7_site_83 : decode cX7_site 83 = .ok (.getfield 97, 3) := by decide +kernel
theorem dX7_site_86 : decode cX7_site 86 = .ok (.if_icmp .ge 72, 3) := by decide +kernel
theorem dX7_site_89 : decode cX7_site 89 = .ok (.aload_n 0, 1) := by decide +kernel
theorem dX7_site_90 : decode cX7_site 90 = .ok (.getfield 16, 3) := by decide +kernel
theorem dX7_site_93 : decode cX7_site 93 = .ok (.iload_n 1, 1) := by decide +kernel
theorem dX7_site_94 : decode cX7_site 94 = .ok (.aload_n 0, 1) := by decide +kernel
theorem dX7_site_95 : decode cX7_site 95 = .ok (.getfield 65, 3) := by decide +kernel
theorem dX7_site_98 : decode cX7_site 98 = .ok (.iload_n 1, 1) := by decide +kernel
theorem dX7_site_99 : decode cX7_site 99 = .ok (.iaload, 1) := by decide +kernel
theorem dX7_site_100 : decode cX7_site 100 = .ok (.iastore, 1) := by decide +kernel
theorem dX7_site_101 : decode cX7_site 101 = .ok (.aload_n 0, 1) := by decide +kernel
theorem dX7_site_102 : decode cX7_site 102 = .ok (.getfield 19, 3) := by decide +kernel
theorem dX7_site_105 : decode cX7_site 105 = .ok (.iload_n 1, 1) := by decide +kernel
theorem dX7_site_106 : decode cX7_site 106 = .ok (.aload_n 0, 1) := by decide +kernel
theorem dX7_site_107 : decode cX7_site 107 = .ok (.getfield 68, 3) := by decide +kernel
theorem dX7_site_110 : decode cX7_site 110 = .ok (.iload_n 1, 1) := by decide +kernel
theorem dX7_site_111 : decode cX7_site 111 = .ok (.iaload, 1) := by decide +kernel
theorem dX7_site_112 : decode cX7_site 112 = .ok (.iastore, 1) := by decide +kernel
theorem dX7_site_113 : decode cX7_site 113 = .ok (.aload_n 0, 1) := by decide +kernel
theorem dX7_site_114 : decode cX7_site 114 = .ok (.getfield 22, 3) := by decide +kernel
theorem dX7_site_117 : decode cX7_site 117 = .ok (.iload_n 1, 1) := by decide +kernel
theorem dX7_site_118 : decode cX7_site 118 = .ok (.aload_n 0, 1) := by decide +kernel
theorem dX7_site_119 : decode cX7_site 119 = .ok (.getfield 71, 3) := by decide +kernel
theorem dX7_site_122 : decode cX7_site 122 = .ok (.iload_n 1, 1) := by decide +kernel
theorem dX7_site_123 : decode cX7_site 123 = .ok (.iaload, 1) := by decide +kernel
theorem dX7_site_124 : decode cX7_site 124 = .ok (.iastore, 1) := by decide +kernel
theorem dX7_site_125 : decode cX7_site 125 = .ok (.aload_n 0, 1) := by decide +kernel
theorem dX7_site_126 : decode cX7_site 126 = .ok (.getfield 25, 3) := by decide +kernel
theorem dX7_site_129 : decode cX7_site 129 = .ok (.iload_n 1, 1) := by decide +kernel
theorem dX7_site_130 : decode cX7_site 130 = .ok (.aload_n 0, 1) := by decide +kernel
theorem dX7_site_131 : decode cX7_site 131 = .ok (.getfield 74, 3) := by decide +kernel
theorem dX7_site_134 : decode cX7_site 134 = .ok (.iload_n 1, 1) := by decide +kernel
theorem dX7_site_135 : decode cX7_site 135 = .ok (.iaload, 1) := by decide +kernel
theorem dX7_site_136 : decode cX7_site 136 = .ok (.iastore, 1) := by decide +kernel
theorem dX7_site_137 : decode cX7_site 137 = .ok (.aload_n 0, 1) := by decide +kernel
theorem dX7_site_138 : decode cX7_site 138 = .ok (.getfield 28, 3) := by decide +kernel
theorem dX7_site_141 : decode cX7_site 141 = .ok (.bipush 32, 2) := by decide +kernel
theorem dX7_site_143 : decode cX7_site 143 = .ok (.iload_n 1, 1) := by decide +kernel
theorem dX7_site_144 : decode cX7_site 144 = .ok (.iadd, 1) := by decide +kernel
theorem dX7_site_145 : decode cX7_site 145 = .ok (.aload_n 0, 1) := by decide +kernel
theorem dX7_site_146 : decode cX7_site 146 = .ok (.getfield 16, 3) := by decide +kernel
theorem dX7_site_149 : decode cX7_site 149 = .ok (.iload_n 1, 1) := by decide +kernel
theorem dX7_site_150 : decode cX7_site 150 = .ok (.iaload, 1) := by decide +kernel
theorem dX7_site_151 : decode cX7_site 151 = .ok (.iastore, 1) := by decide +kernel
theorem dX7_site_152 : decode cX7_site 152 = .ok (.iinc 1 1, 3) := by decide +kernel
theorem dX7_site_155 : decode cX7_site 155 = .ok (.goto (-74), 3) := by decide +kernel
theorem dX7_site_158 : decode cX7_site 158 = .ok (.aload_n 0, 1) := by decide +kernel
theorem dX7_site_159 : decode cX7_site 159 = .ok (.iconst 0, 1) := by decide +kernel
theorem dX7_site_160 : decode cX7_site 160 = .ok (.putfield 135, 3) := by decide +kernel
theorem dX7_site_163 : decode cX7_site 163 = .ok (.aload_n 0, 1) := by decide +kernel
theorem dX7_site_164 : decode cX7_site 164 = .ok (.getfield 40, 3) := by decide +kernel
theorem dX7_site_167 : decode cX7_site 167 = .ok (.iconst 0, 1) := by decide +kernel
theorem dX7_site_168 : decode cX7_site 168 = .ok (.iconst 0, 1) := by decide +kernel
theorem dX7_site_169 : decode cX7_site 169 = .ok (.bastore, 1) := by decide +kernel
theorem dX7_site_170 : decode cX7_site 170 = .ok (.aload_n 0, 1) := by decide +kernel
theorem dX7_site_171 : decode cX7_site 171 = .ok (.getfield 40, 3) := by decide +kernel
theorem dX7_site_174 : decode cX7_site 174 = .ok (.iconst 1, 1) := by decide +kernel
theorem dX7_site_175 : decode cX7_site 175 = .ok (.iconst 0, 1) := by decide +kernel
theorem dX7_site_176 : decode cX7_site 176 = .ok (.bastore, 1) := by decide +kernel
theorem dX7_site_177 : decode cX7_site 177 = .ok (.aload_n 0, 1) := by decide +kernel
theorem dX7_site_178 : decode cX7_site 178 = .ok (.getfield 90, 3) := by decide +kernel
theorem dX7_site_181 : decode cX7_site 181 = .ok (.ireturn, 1) := by decide +kernel
theorem dX7_kindOf_0 : decode cX7_kindOf 0 = .ok (.iload_n 1, 1) := by decide +kernel
theorem dX7_kindOf_1 : decode cX7_kindOf 1 = .ok (.aload_n 0, 1) := by decide +kernel
theorem dX7_kindOf_2 : decode cX7_kindOf 2 = .ok (.getfield 84, 3) := by decide +kernel
theorem dX7_kindOf_5 : decode cX7_kindOf 5 = .ok (.if_icmp .ne 7, 3) := by decide +kernel
theorem dX7_kindOf_8 : decode cX7_kindOf 8 = .ok (.iconst 1, 1) := by decide +kernel
theorem dX7_kindOf_9 : decode cX7_kindOf 9 = .ok (.goto 9, 3) := by decide +kernel
theorem dX7_kindOf_12 : decode cX7_kindOf 12 = .ok (.aload_n 0, 1) := by decide +kernel
theorem dX7_kindOf_13 : decode cX7_kindOf 13 = .ok (.getfield 25, 3) := by decide +kernel
theorem dX7_kindOf_16 : decode cX7_kindOf 16 = .ok (.iload_n 1, 1) := by decide +kernel
theorem dX7_kindOf_17 : decode cX7_kindOf 17 = .ok (.iaload, 1) := by decide +kernel
theorem dX7_kindOf_18 : decode cX7_kindOf 18 = .ok (.ireturn, 1) := by decide +kernel
theorem dX7_isMuteAt_0 : decode cX7_isMuteAt 0 = .ok (.aload_n 0, 1) := by decide +kernel
theorem dX7_isMuteAt_1 : decode cX7_isMuteAt 1 = .ok (.aload_n 1, 1) := by decide +kernel
theorem dX7_isMuteAt_2 : decode cX7_isMuteAt 2 = .ok (.iconst 0, 1) := by decide +kernel
theorem dX7_isMuteAt_3 : decode cX7_isMuteAt 3 = .ok (.iload_n 2, 1) := by decide +kernel
theorem dX7_isMuteAt_4 : decode cX7_isMuteAt 4 = .ok (.iadd, 1) := by decide +kernel
theorem dX7_isMuteAt_5 : decode cX7_isMuteAt 5 = .ok (.iaload, 1) := by decide +kernel
theorem dX7_isMuteAt_6 : decode cX7_isMuteAt 6 = .ok (.invokevirtual 138, 3) := by decide +kernel
theorem dX7_isMuteAt_9 : decode cX7_isMuteAt 9 = .ok (.iconst 2, 1) := by decide +kernel
theorem dX7_isMuteAt_10 : decode cX7_isMuteAt 10 = .ok (.if_icmp .ne 7, 3) := by decide +kernel
theorem dX7_isMuteAt_13 : decode cX7_isMuteAt 13 = .ok (.iconst 1, 1) := by decide +kernel
theorem dX7_isMuteAt_14 : decode cX7_isMuteAt 14 = .ok (.goto 4, 3) := by decide +kernel
theorem dX7_isMuteAt_17 : decode cX7_isMuteAt 17 = .ok (.iconst 0, 1) := by decide +kernel
theorem dX7_isMuteAt_18 : decode cX7_isMuteAt 18 = .ok (.ireturn, 1) := by decide +kernel
theorem dX7_isLive_0 : decode cX7_isLive 0 = .ok (.aload_n 0, 1) := by decide +kernel
theorem dX7_isLive_1 : decode cX7_isLive 1 = .ok (.iconst 4, 1) := by decide +kernel
theorem dX7_isLive_2 : decode cX7_isLive 2 = .ok (.iload_n 1, 1) := by decide +kernel
theorem dX7_isLive_3 : decode cX7_isLive 3 = .ok (.iadd, 1) := by decide +kernel
theorem dX7_isLive_4 : decode cX7_isLive 4 = .ok (.iaload, 1) := by decide +kernel
theorem dX7_isLive_5 : decode cX7_isLive 5 = .ok (.iconst 1, 1) := by decide +kernel
theorem dX7_isLive_6 : decode cX7_isLive 6 = .ok (.iconst 3, 1) := by decide +kernel
theorem dX7_isLive_7 : decode cX7_isLive 7 = .ok (.invokestatic 93, 3) := by decide +kernel
theorem dX7_isLive_10 : decode cX7_isLive 10 = .ok (.ireturn, 1) := by decide +kernel
theorem dX7_clearAt_0 : decode cX7_clearAt 0 = .ok (.aload_n 1, 1) := by decide +kernel
theorem dX7_clearAt_1 : decode cX7_clearAt 1 = .ok (.iconst 4, 1) := by decide +kernel
theorem dX7_clearAt_2 : decode cX7_clearAt 2 = .ok (.iload_n 2, 1) := by decide +kernel
theorem dX7_clearAt_3 : decode cX7_clearAt 3 = .ok (.iadd, 1) := by decide +kernel
theorem dX7_clearAt_4 : decode cX7_clearAt 4 = .ok (.iload_n 3, 1) := by decide +kernel
theorem dX7_clearAt_5 : decode cX7_clearAt 5 = .ok (.iastore, 1) := by decide +kernel
theorem dX7_clearAt_6 : decode cX7_clearAt 6 = .ok (.aload_n 1, 1) := by decide +kernel
theorem dX7_clearAt_7 : decode cX7_clearAt 7 = .ok (.bipush 8, 2) := by decide +kernel
theorem dX7_clearAt_9 : decode cX7_clearAt 9 = .ok (.iload_n 2, 1) := by decide +kernel
theorem dX7_clearAt_10 : decode cX7_clearAt 10 = .ok (.iadd, 1) := by decide +kernel
theorem dX7_clearAt_11 : decode cX7_clearAt 11 = .ok (.iconst 0, 1) := by decide +kernel
theorem dX7_clearAt_12 : decode cX7_clearAt 12 = .ok (.iastore, 1) := by decide +kernel
theorem dX7_clearAt_13 : decode cX7_clearAt 13 = .ok (.aload_n 1, 1) := by decide +kernel
theorem dX7_clearAt_14 : decode cX7_clearAt 14 = .ok (.bipush 12, 2) := by decide +kernel
theorem dX7_clearAt_16 : decode cX7_clearAt 16 = .ok (.iload_n 2, 1) := by decide +kernel
theorem dX7_clearAt_17 : decode cX7_clearAt 17 = .ok (.iadd, 1) := by decide +kernel
theorem dX7_clearAt_18 : decode cX7_clearAt 18 = .ok (.iconst 0, 1) := by decide +kernel
theorem dX7_clearAt_19 : decode cX7_clearAt 19 = .ok (.iastore, 1) := by decide +kernel
theorem dX7_clearAt_20 : decode cX7_clearAt 20 = .ok (.aload_n 1, 1) := by decide +kernel
theorem dX7_clearAt_21 : decode cX7_clearAt 21 = .ok (.bipush 16, 2) := by decide +kernel
theorem dX7_clearAt_23 : decode cX7_clearAt 23 = .ok (.iload_n 2, 1) := by decide +kernel
theorem dX7_clearAt_24 : decode cX7_clearAt 24 = .ok (.iadd, 1) := by decide +kernel
theorem dX7_clearAt_25 : decode cX7_clearAt 25 = .ok (.iconst 0, 1) := by decide +kernel
theorem dX7_clearAt_26 : decode cX7_clearAt 26 = .ok (.iastore, 1) := by decide +kernel
theorem dX7_clearAt_27 : decode cX7_clearAt 27 = .ok (.aload_n 1, 1) := by decide +kernel
theorem dX7_clearAt_28 : decode cX7_clearAt 28 = .ok (.bipush 20, 2) := by decide +kernel
theorem dX7_clearAt_30 : decode cX7_clearAt 30 = .ok (.iload_n 2, 1) := by decide +kernel
theorem dX7_clearAt_31 : decode cX7_clearAt 31 = .ok (.iadd, 1) := by decide +kernel
theorem dX7_clearAt_32 : decode cX7_clearAt 32 = .ok (.iconst 0, 1) := by decide +kernel
theorem dX7_clearAt_33 : decode cX7_clearAt 33 = .ok (.iastore, 1) := by decide +kernel
theorem dX7_clearAt_34 : decode cX7_clearAt 34 = .ok (.return_, 1) := by decide +kernel
theorem dX7_beSilent_0 : decode cX7_beSilent 0 = .ok (.iconst 0, 1) := by decide +kernel
theorem dX7_beSilent_1 : decode cX7_beSilent 1 = .ok (.istore_n 3, 1) := by decide +kernel
theorem dX7_beSilent_2 : decode cX7_beSilent 2 = .ok (.iload_n 3, 1) := by decide +kernel
theorem dX7_beSilent_3 : decode cX7_beSilent 3 = .ok (.aload_n 0, 1) := by decide +kernel
theorem dX7_beSilent_4 : decode cX7_beSilent 4 = .ok (.getfield 90, 3) := by decide +kernel
theorem dX7_beSilent_7 : decode cX7_beSilent 7 = .ok (.if_icmp .ge 71, 3) := by decide +kernel
theorem dX7_beSilent_10 : decode cX7_beSilent 10 = .ok (.aload_n 1, 1) := by decide +kernel
theorem dX7_beSilent_11 : decode cX7_beSilent 11 = .ok (.iload_n 3, 1) := by decide +kernel
theorem dX7_beSilent_12 : decode cX7_beSilent 12 = .ok (.invokestatic 142, 3) := by decide +kernel
theorem dX7_beSilent_15 : decode cX7_beSilent 15 = .ok (.ifCond .eq 57, 3) := by decide +kernel
theorem dX7_beSilent_18 : decode cX7_beSilent 18 = .ok (.aload_n 0, 1) := by decide +kernel
theorem dX7_beSilent_19 : decode cX7_beSilent 19 = .ok (.aload_n 1, 1) := by decide +kernel
theorem dX7_beSilent_20 : decode cX7_beSilent 20 = .ok (.iload_n 3, 1) := by decide +kernel
theorem dX7_beSilent_21 : decode cX7_beSilent 21 = .ok (.invokevirtual 146, 3) := by decide +kernel
theorem dX7_beSilent_24 : decode cX7_beSilent 24 = .ok (.ifCond .ne 48, 3) := by decide +kernel
theorem dX7_beSilent_27 : decode cX7_beSilent 27 = .ok (.iload_n 2, 1) := by decide +kernel
theorem dX7_beSilent_28 : decode cX7_beSilent 28 = .ok (.iload_n 3, 1) := by decide +kernel
theorem dX7_beSilent_29 : decode cX7_beSilent 29 = .ok (.invokestatic 149, 3) := by decide +kernel
theorem dX7_beSilent_32 : decode cX7_beSilent 32 = .ok (.ifCond .ne 40, 3) := by decide +kernel
theorem dX7_beSilent_35 : decode cX7_beSilent 35 = .ok (.aload_n 1, 1) := by decide +kernel
theorem dX7_beSilent_36 : decode cX7_beSilent 36 = .ok (.bipush 12, 2) := by decide +kernel
theorem dX7_beSilent_38 : decode cX7_beSilent 38 = .ok (.iload_n 3, 1) := by decide +kernel
theorem dX7_beSilent_39 : decode cX7_beSilent 39 = .ok (.iadd, 1) := by decide +kernel
theorem dX7_beSilent_40 : decode cX7_beSilent 40 = .ok (.dup2, 1) := by decide +kernel
theorem dX7_beSilent_41 : decode cX7_beSilent 41 = .ok (.iaload, 1) := by decide +kernel
theorem dX7_beSilent_42 : decode cX7_beSilent 42 = .ok (.iconst 1, 1) := by decide +kernel
theorem dX7_beSilent_43 : decode cX7_beSilent 43 = .ok (.iadd, 1) := by decide +kernel
theorem dX7_beSilent_44 : decode cX7_beSilent 44 = .ok (.iastore, 1) := by decide +kernel
theorem dX7_beSilent_45 : decode cX7_beSilent 45 = .ok (.aload_n 1, 1) := by decide +kernel
theorem dX7_beSilent_46 : decode cX7_beSilent 46 = .ok (.iconst 4, 1) := by decide +kernel
theorem dX7_beSilent_47 : decode cX7_beSilent 47 = .ok (.iload_n 3, 1) := by decide +kernel
theorem dX7_beSilent_48 : decode cX7_beSilent 48 = .ok (.iadd, 1) := by decide +kernel
theorem dX7_beSilent_49 : decode cX7_beSilent 49 = .ok (.aload_n 1, 1) := by decide +kernel
theorem dX7_beSilent_50 : decode cX7_beSilent 50 = .ok (.bipush 12, 2) := by decide +kernel
theorem dX7_beSilent_52 : decode cX7_beSilent 52 = .ok (.iload_n 3, 1) := by decide +kernel
theorem dX7_beSilent_53 : decode cX7_beSilent 53 = .ok (.iadd, 1) := by decide +kernel
theorem dX7_beSilent_54 : decode cX7_beSilent 54 = .ok (.iaload, 1) := by decide +kernel
theorem dX7_beSilent_55 : decode cX7_beSilent 55 = .ok (.aload_n 0, 1) := by decide +kernel
theorem dX7_beSilent_56 : decode cX7_beSilent 56 = .ok (.getfield 77, 3) := by decide +kernel
theorem dX7_beSilent_59 : decode cX7_beSilent 59 = .ok (.if_icmp .le 7, 3) := by decide +kernel
theorem dX7_beSilent_62 : decode cX7_beSilent 62 = .ok (.iconst 4, 1) := by decide +kernel
theorem dX7_beSilent_63 : decode cX7_beSilent 63 = .ok (.goto 8, 3) := by decide +kernel
theorem dX7_beSilent_66 : decode cX7_beSilent 66 = .ok (.aload_n 1, 1) := by decide +kernel
theorem dX7_beSilent_67 : decode cX7_beSilent 67 = .ok (.iconst 4, 1) := by decide +kernel
theorem dX7_beSilent_68 : decode cX7_beSilent 68 = .ok (.iload_n 3, 1) := by decide +kernel
theorem dX7_beSilent_69 : decode cX7_beSilent 69 = .ok (.iadd, 1) := by decide +kernel
theorem dX7_beSilent_70 : decode cX7_beSilent 70 = .ok (.iaload, 1) := by decide +kernel
theorem dX7_beSilent_71 : decode cX7_beSilent 71 = .ok (.iastore, 1) := by decide +kernel
theorem dX7_beSilent_72 : decode cX7_beSilent 72 = .ok (.iinc 3 1, 3) := by decide +kernel
theorem dX7_beSilent_75 : decode cX7_beSilent 75 = .ok (.goto (-73), 3) := by decide +kernel
theorem dX7_beSilent_78 : decode cX7_beSilent 78 = .ok (.return_, 1) := by decide +kernel
theorem dX7_goOn_0 : decode cX7_goOn 0 = .ok (.iconst 0, 1) := by decide +kernel
theorem dX7_goOn_1 : decode cX7_goOn 1 = .ok (.istore_n 2, 1) := by decide +kernel
theorem dX7_goOn_2 : decode cX7_goOn 2 = .ok (.iload_n 2, 1) := by decide +kernel
theorem dX7_goOn_3 : decode cX7_goOn 3 = .ok (.aload_n 0, 1) := by decide +kernel
theorem dX7_goOn_4 : decode cX7_goOn 4 = .ok (.getfield 90, 3) := by decide +kernel
theorem dX7_goOn_7 : decode cX7_goOn 7 = .ok (.if_icmp .ge 112, 3) := by decide +kernel
theorem dX7_goOn_10 : decode cX7_goOn 10 = .ok (.aload_n 1, 1) := by decide +kernel
theorem dX7_goOn_11 : decode cX7_goOn 11 = .ok (.iconst 4, 1) := by decide +kernel
theorem dX7_goOn_12 : decode cX7_goOn 12 = .ok (.iload_n 2, 1) := by decide +kernel
theorem dX7_goOn_13 : decode cX7_goOn 13 = .ok (.iadd, 1) := by decide +kernel
theorem dX7_goOn_14 : decode cX7_goOn 14 = .ok (.iaload, 1) := by decide +kernel
theorem dX7_goOn_15 : decode cX7_goOn 15 = .ok (.istore_n 3, 1) := by decide +kernel
theorem dX7_goOn_16 : decode cX7_goOn 16 = .ok (.aload_n 1, 1) := by decide +kernel
theorem dX7_goOn_17 : decode cX7_goOn 17 = .ok (.bipush 16, 2) := by decide +kernel
theorem dX7_goOn_19 : decode cX7_goOn 19 = .ok (.iload_n 2, 1) := by decide +kernel
theorem dX7_goOn_20 : decode cX7_goOn 20 = .ok (.iadd, 1) := by decide +kernel
theorem dX7_goOn_21 : decode cX7_goOn 21 = .ok (.dup2, 1) := by decide +kernel
theorem dX7_goOn_22 : decode cX7_goOn 22 = .ok (.iaload, 1) := by decide +kernel
theorem dX7_goOn_23 : decode cX7_goOn 23 = .ok (.iload_n 3, 1) := by decide +kernel
theorem dX7_goOn_24 : decode cX7_goOn 24 = .ok (.iconst 1, 1) := by decide +kernel
theorem dX7_goOn_25 : decode cX7_goOn 25 = .ok (.if_icmp .ne 7, 3) := by decide +kernel
theorem dX7_goOn_28 : decode cX7_goOn 28 = .ok (.iconst 1, 1) := by decide +kernel
theorem dX7_goOn_29 : decode cX7_goOn 29 = .ok (.goto 4, 3) := by decide +kernel
theorem dX7_goOn_32 : decode cX7_goOn 32 = .ok (.iconst 0, 1) := by decide +kernel
theorem dX7_goOn_33 : decode cX7_goOn 33 = .ok (.iadd, 1) := by decide +kernel
theorem dX7_goOn_34 : decode cX7_goOn 34 = .ok (.iastore, 1) := by decide +kernel
theorem dX7_goOn_35 : decode cX7_goOn 35 = .ok (.iload_n 3, 1) := by decide +kernel
theorem dX7_goOn_36 : decode cX7_goOn 36 = .ok (.iconst 1, 1) := by decide +kernel
theorem dX7_goOn_37 : decode cX7_goOn 37 = .ok (.if_icmp .ne 28, 3) := by decide +kernel
theorem dX7_goOn_40 : decode cX7_goOn 40 = .ok (.aload_n 0, 1) := by decide +kernel
theorem dX7_goOn_41 : decode cX7_goOn 41 = .ok (.aload_n 1, 1) := by decide +kernel
theorem dX7_goOn_42 : decode cX7_goOn 42 = .ok (.iload_n 2, 1) := by decide +kernel
theorem dX7_goOn_43 : decode cX7_goOn 43 = .ok (.invokevirtual 146, 3) := by decide +kernel
theorem dX7_goOn_46 : decode cX7_goOn 46 = .ok (.ifCond .eq 19, 3) := by decide +kernel
theorem dX7_goOn_49 : decode cX7_goOn 49 = .ok (.aload_n 1, 1) := by decide +kernel
theorem dX7_goOn_50 : decode cX7_goOn 50 = .ok (.bipush 16, 2) := by decide +kernel
theorem dX7_goOn_52 : decode cX7_goOn 52 = .ok (.iload_n 2, 1) := by decide +kernel
theorem dX7_goOn_53 : decode cX7_goOn 53 = .ok (.iadd, 1) := by decide +kernel
theorem dX7_goOn_54 : decode cX7_goOn 54 = .ok (.iaload, 1) := by decide +kernel
theorem dX7_goOn_55 : decode cX7_goOn 55 = .ok (.iconst 2, 1) := by decide +kernel
theorem dX7_goOn_56 : decode cX7_goOn 56 = .ok (.if_icmp .lt 9, 3) := by decide +kernel
theorem dX7_goOn_59 : decode cX7_goOn 59 = .ok (.aload_n 1, 1) := by decide +kernel
theorem dX7_goOn_60 : decode cX7_goOn 60 = .ok (.iconst 4, 1) := by decide +kernel
theorem dX7_goOn_61 : decode cX7_goOn 61 = .ok (.iload_n 2, 1) := by decide +kernel
theorem dX7_goOn_62 : decode cX7_goOn 62 = .ok (.iadd, 1) := by decide +kernel
theorem dX7_goOn_63 : decode cX7_goOn 63 = .ok (.iconst 2, 1) := by decide +kernel
theorem dX7_goOn_64 : decode cX7_goOn 64 = .ok (.iastore, 1) := by decide +kernel
theorem dX7_goOn_65 : decode cX7_goOn 65 = .ok (.iload_n 3, 1) := by decide +kernel
theorem dX7_goOn_66 : decode cX7_goOn 66 = .ok (.iconst 2, 1) := by decide +kernel
theorem dX7_goOn_67 : decode cX7_goOn 67 = .ok (.if_icmp .ne 22, 3) := by decide +kernel
theorem dX7_goOn_70 : decode cX7_goOn 70 = .ok (.aload_n 1, 1) := by decide +kernel
theorem dX7_goOn_71 : decode cX7_goOn 71 = .ok (.bipush 32, 2) := by decide +kernel
theorem dX7_goOn_73 : decode cX7_goOn 73 = .ok (.aload_n 1, 1) := by decide +kernel
theorem dX7_goOn_74 : decode cX7_goOn 74 = .ok (.iconst 0, 1) := by decide +kernel
theorem dX7_goOn_75 : decode cX7_goOn 75 = .ok (.iload_n 2, 1) := by decide +kernel
theorem dX7_goOn_76 : decode cX7_goOn 76 = .ok (.iadd, 1) := by decide +kernel
theorem dX7_goOn_77 : decode cX7_goOn 77 = .ok (.iaload, 1) := by decide +kernel
theorem dX7_goOn_78 : decode cX7_goOn 78 = .ok (.iadd, 1) := by decide +kernel
theorem dX7_goOn_79 : decode cX7_goOn 79 = .ok (.iaload, 1) := by decide +kernel
theorem dX7_goOn_80 : decode cX7_goOn 80 = .ok (.ifCond .le 9, 3) := by decide +kernel
theorem dX7_goOn_83 : decode cX7_goOn 83 = .ok (.aload_n 1, 1) := by decide +kernel
theorem dX7_goOn_84 : decode cX7_goOn 84 = .ok (.iconst 4, 1) := by decide +kernel
theorem dX7_goOn_85 : decode cX7_goOn 85 = .ok (.iload_n 2, 1) := by decide +kernel
theorem dX7_goOn_86 : decode cX7_goOn 86 = .ok (.iadd, 1) := by decide +kernel
theorem dX7_goOn_87 : decode cX7_goOn 87 = .ok (.iconst 3, 1) := by decide +kernel
theorem dX7_goOn_88 : decode cX7_goOn 88 = .ok (.iastore, 1) := by decide +kernel
theorem dX7_goOn_89 : decode cX7_goOn 89 = .ok (.iload_n 3, 1) := by decide +kernel
theorem dX7_goOn_90 : decode cX7_goOn 90 = .ok (.iconst 3, 1) := by decide +kernel
theorem dX7_goOn_91 : decode cX7_goOn 91 = .ok (.if_icmp .ne 22, 3) := by decide +kernel
theorem dX7_goOn_94 : decode cX7_goOn 94 = .ok (.aload_n 1, 1) := by decide +kernel
theorem dX7_goOn_95 : decode cX7_goOn 95 = .ok (.bipush 32, 2) := by decide +kernel
theorem dX7_goOn_97 : decode cX7_goOn 97 = .ok (.aload_n 1, 1) := by decide +kernel
theorem dX7_goOn_98 : decode cX7_goOn 98 = .ok (.iconst 0, 1) := by decide +kernel
theorem dX7_goOn_99 : decode cX7_goOn 99 = .ok (.iload_n 2, 1) := by decide +kernel
theorem dX7_goOn_100 : decode cX7_goOn 100 = .ok (.iadd, 1) := by decide +kernel
theorem dX7_goOn_101 : decode cX7_goOn 101 = .ok (.iaload, 1) := by decide +kernel
theorem dX7_goOn_102 : decode cX7_goOn 102 = .ok (.iadd, 1) := by decide +kernel
theorem dX7_goOn_103 : decode cX7_goOn 103 = .ok (.iaload, 1) := by decide +kernel
theorem dX7_goOn_104 : decode cX7_goOn 104 = .ok (.ifCond .ne 9, 3) := by decide +kernel
theorem dX7_goOn_107 : decode cX7_goOn 107 = .ok (.aload_n 1, 1) := by decide +kernel
theorem dX7_goOn_108 : decode cX7_goOn 108 = .ok (.iconst 4, 1) := by decide +kernel
theorem dX7_goOn_109 : decode cX7_goOn 109 = .ok (.iload_n 2, 1) := by decide +kernel
theorem dX7_goOn_110 : decode cX7_goOn 110 = .ok (.iadd, 1) := by decide +kernel
theorem dX7_goOn_111 : decode cX7_goOn 111 = .ok (.iconst 2, 1) := by decide +kernel
theorem dX7_goOn_112 : decode cX7_goOn 112 = .ok (.iastore, 1) := by decide +kernel
theorem dX7_goOn_113 : decode cX7_goOn 113 = .ok (.iinc 2 1, 3) := by decide +kernel
theorem dX7_goOn_116 : decode cX7_goOn 116 = .ok (.goto (-114), 3) := by decide +kernel
theorem dX7_goOn_119 : decode cX7_goOn 119 = .ok (.return_, 1) := by decide +kernel
theorem dX7_isBefore_0 : decode cX7_isBefore 0 = .ok (.aload_n 1, 1) := by decide +kernel
theorem dX7_isBefore_1 : decode cX7_isBefore 1 = .ok (.iconst 0, 1) := by decide +kernel
theorem dX7_isBefore_2 : decode cX7_isBefore 2 = .ok (.iload_n 2, 1) := by decide +kernel
theorem dX7_isBefore_3 : decode cX7_isBefore 3 = .ok (.iadd, 1) := by decide +kernel
theorem dX7_isBefore_4 : decode cX7_isBefore 4 = .ok (.iaload, 1) := by decide +kernel
theorem dX7_isBefore_5 : decode cX7_isBefore 5 = .ok (.istore 4, 2) := by decide +kernel
theorem dX7_isBefore_7 : decode cX7_isBefore 7 = .ok (.aload_n 1, 1) := by decide +kernel
theorem dX7_isBefore_8 : decode cX7_isBefore 8 = .ok (.iconst 0, 1) := by decide +kernel
theorem dX7_isBefore_9 : decode cX7_isBefore 9 = .ok (.iload_n 3, 1) := by decide +kernel
theorem dX7_isBefore_10 : decode cX7_isBefore 10 = .ok (.iadd, 1) := by decide +kernel
theorem dX7_isBefore_11 : decode cX7_isBefore 11 = .ok (.iaload, 1) := by decide +kernel
theorem dX7_isBefore_12 : decode cX7_isBefore 12 = .ok (.istore 5, 2) := by decide +kernel
theorem dX7_isBefore_14 : decode cX7_isBefore 14 = .ok (.aload_n 0, 1) := by decide +kernel
theorem dX7_isBefore_15 : decode cX7_isBefore 15 = .ok (.getfield 22, 3) := by decide +kernel
theorem dX7_isBefore_18 : decode cX7_isBefore 18 = .ok (.iload 4, 2) := by decide +kernel
theorem dX7_isBefore_20 : decode cX7_isBefore 20 = .ok (.iaload, 1) := by decide +kernel
theorem dX7_isBefore_21 : decode cX7_isBefore 21 = .ok (.aload_n 0, 1) := by decide +kernel
theorem dX7_isBefore_22 : decode cX7_isBefore 22 = .ok (.getfield 22, 3) := by decide +kernel
theorem dX7_isBefore_25 : decode cX7_isBefore 25 = .ok (.iload 5, 2) := by decide +kernel
theorem dX7_isBefore_27 : decode cX7_isBefore 27 = .ok (.iaload, 1) := by decide +kernel
theorem dX7_isBefore_28 : decode cX7_isBefore 28 = .ok (.if_icmp .eq 26, 3) := by decide +kernel
theorem dX7_isBefore_31 : decode cX7_isBefore 31 = .ok (.aload_n 0, 1) := by decide +kernel
theorem dX7_isBefore_32 : decode cX7_isBefore 32 = .ok (.getfield 22, 3) := by decide +kernel
theorem dX7_isBefore_35 : decode cX7_isBefore 35 = .ok (.iload 4, 2) := by decide +kernel
theorem dX7_isBefore_37 : decode cX7_isBefore 37 = .ok (.iaload, 1) := by decide +kernel
theorem dX7_isBefore_38 : decode cX7_isBefore 38 = .ok (.aload_n 0, 1) := by decide +kernel
theorem dX7_isBefore_39 : decode cX7_isBefore 39 = .ok (.getfield 22, 3) := by decide +kernel
theorem dX7_isBefore_42 : decode cX7_isBefore 42 = .ok (.iload 5, 2) := by decide +kernel
theorem dX7_isBefore_44 : decode cX7_isBefore 44 = .ok (.iaload, 1) := by decide +kernel
theorem dX7_isBefore_45 : decode cX7_isBefore 45 = .ok (.if_icmp .le 7, 3) := by decide +kernel
theorem dX7_isBefore_48 : decode cX7_isBefore 48 = .ok (.iconst 1, 1) := by decide +kernel
theorem dX7_isBefore_49 : decode cX7_isBefore 49 = .ok (.goto 4, 3) := by decide +kernel
theorem dX7_isBefore_52 : decode cX7_isBefore 52 = .ok (.iconst 0, 1) := by decide +kernel
theorem dX7_isBefore_53 : decode cX7_isBefore 53 = .ok (.ireturn, 1) := by decide +kernel
theorem dX7_isBefore_54 : decode cX7_isBefore 54 = .ok (.aload_n 1, 1) := by decide +kernel
theorem dX7_isBefore_55 : decode cX7_isBefore 55 = .ok (.bipush 32, 2) := by decide +kernel
theorem dX7_isBefore_57 : decode cX7_isBefore 57 = .ok (.iload 4, 2) := by decide +kernel
theorem dX7_isBefore_59 : decode cX7_isBefore 59 = .ok (.iadd, 1) := by decide +kernel
theorem dX7_isBefore_60 : decode cX7_isBefore 60 = .ok (.iaload, 1) := by decide +kernel
theorem dX7_isBefore_61 : decode cX7_isBefore 61 = .ok (.aload_n 1, 1) := by decide +kernel
theorem dX7_isBefore_62 : decode cX7_isBefore 62 = .ok (.bipush 32, 2) := by decide +kernel
theorem dX7_isBefore_64 : decode cX7_isBefore 64 = .ok (.iload 5, 2) := by decide +kernel
theorem dX7_isBefore_66 : decode cX7_isBefore 66 = .ok (.iadd, 1) := by decide +kernel
theorem dX7_isBefore_67 : decode cX7_isBefore 67 = .ok (.iaload, 1) := by decide +kernel
theorem dX7_isBefore_68 : decode cX7_isBefore 68 = .ok (.if_icmp .eq 28, 3) := by decide +kernel
theorem dX7_isBefore_71 : decode cX7_isBefore 71 = .ok (.aload_n 1, 1) := by decide +kernel
theorem dX7_isBefore_72 : decode cX7_isBefore 72 = .ok (.bipush 32, 2) := by decide +kernel
theorem dX7_isBefore_74 : decode cX7_isBefore 74 = .ok (.iload 4, 2) := by decide +kernel
theorem dX7_isBefore_76 : decode cX7_isBefore 76 = .ok (.iadd, 1) := by decide +kernel
theorem dX7_isBefore_77 : decode cX7_isBefore 77 = .ok (.iaload, 1) := by decide +kernel
theorem dX7_isBefore_78 : decode cX7_isBefore 78 = .ok (.aload_n 1, 1) := by decide +kernel
theorem dX7_isBefore_79 : decode cX7_isBefore 79 = .ok (.bipush 32, 2) := by decide +kernel
theorem dX7_isBefore_81 : decode cX7_isBefore 81 = .ok (.iload 5, 2) := by decide +kernel
theorem dX7_isBefore_83 : decode cX7_isBefore 83 = .ok (.iadd, 1) := by decide +kernel
theorem dX7_isBefore_84 : decode cX7_isBefore 84 = .ok (.iaload, 1) := by decide +kernel
theorem dX7_isBefore_85 : decode cX7_isBefore 85 = .ok (.if_icmp .le 7, 3) := by decide +kernel
theorem dX7_isBefore_88 : decode cX7_isBefore 88 = .ok (.iconst 1, 1) := by decide +kernel
theorem dX7_isBefore_89 : decode cX7_isBefore 89 = .ok (.goto 17, 3) := by decide +kernel
theorem dX7_isBefore_92 : decode cX7_isBefore 92 = .ok (.iconst 0, 1) := by decide +kernel
theorem dX7_isBefore_93 : decode cX7_isBefore 93 = .ok (.goto 13, 3) := by decide +kernel
theorem dX7_isBefore_96 : decode cX7_isBefore 96 = .ok (.iload_n 2, 1) := by decide +kernel
theorem dX7_isBefore_97 : decode cX7_isBefore 97 = .ok (.iload_n 3, 1) := by decide +kernel
theorem dX7_isBefore_98 : decode cX7_isBefore 98 = .ok (.if_icmp .ge 7, 3) := by decide +kernel
theorem dX7_isBefore_101 : decode cX7_isBefore 101 = .ok (.iconst 1, 1) := by decide +kernel
theorem dX7_isBefore_102 : decode cX7_isBefore 102 = .ok (.goto 4, 3) := by decide +kernel
theorem dX7_isBefore_105 : decode cX7_isBefore 105 = .ok (.iconst 0, 1) := by decide +kernel
theorem dX7_isBefore_106 : decode cX7_isBefore 106 = .ok (.ireturn, 1) := by decide +kernel
theorem dX7_layOrder_0 : decode cX7_layOrder 0 = .ok (.aload_n 0, 1) := by decide +kernel
theorem dX7_layOrder_1 : decode cX7_layOrder 1 = .ok (.iconst 0, 1) := by decide +kernel
theorem dX7_layOrder_2 : decode cX7_layOrder 2 = .ok (.putfield 153, 3) := by decide +kernel
theorem dX7_layOrder_5 : decode cX7_layOrder 5 = .ok (.iconst 0, 1) := by decide +kernel
theorem dX7_layOrder_6 : decode cX7_layOrder 6 = .ok (.istore_n 2, 1) := by decide +kernel
theorem dX7_layOrder_7 : decode cX7_layOrder 7 = .ok (.iload_n 2, 1) := by decide +kernel
theorem dX7_layOrder_8 : decode cX7_layOrder 8 = .ok (.aload_n 0, 1) := by decide +kernel
theorem dX7_layOrder_9 : decode cX7_layOrder 9 = .ok (.getfield 90, 3) := by decide +kernel
theorem dX7_layOrder_12 : decode cX7_layOrder 12 = .ok (.if_icmp .ge 92, 3) := by decide +kernel
theorem dX7_layOrder_15 : decode cX7_layOrder 15 = .ok (.aload_n 1, 1) := by decide +kernel
theorem dX7_layOrder_16 : decode cX7_layOrder 16 = .ok (.iconst 4, 1) := by decide +kernel
theorem dX7_layOrder_17 : decode cX7_layOrder 17 = .ok (.iload_n 2, 1) := by decide +kernel
theorem dX7_layOrder_18 : decode cX7_layOrder 18 = .ok (.iadd, 1) := by decide +kernel
theorem dX7_layOrder_19 : decode cX7_layOrder 19 = .ok (.iaload, 1) := by decide +kernel
theorem dX7_layOrder_20 : decode cX7_layOrder 20 = .ok (.iconst 3, 1) := by decide +kernel
theorem dX7_layOrder_21 : decode cX7_layOrder 21 = .ok (.if_icmp .ne 77, 3) := by decide +kernel
theorem dX7_layOrder_24 : decode cX7_layOrder 24 = .ok (.aload_n 0, 1) := by decide +kernel
theorem dX7_layOrder_25 : decode cX7_layOrder 25 = .ok (.getfield 81, 3) := by decide +kernel
theorem dX7_layOrder_28 : decode cX7_layOrder 28 = .ok (.iload_n 2, 1) := by decide +kernel
theorem dX7_layOrder_29 : decode cX7_layOrder 29 = .ok (.invokestatic 149, 3) := by decide +kernel
theorem dX7_layOrder_32 : decode cX7_layOrder 32 = .ok (.ifCond .eq 66, 3) := by decide +kernel
theorem dX7_layOrder_35 : decode cX7_layOrder 35 = .ok (.aload_n 0, 1) := by decide +kernel
theorem dX7_layOrder_36 : decode cX7_layOrder 36 = .ok (.getfield 153, 3) := by decide +kernel
theorem dX7_layOrder_39 : decode cX7_layOrder 39 = .ok (.istore_n 3, 1) := by decide +kernel
theorem dX7_layOrder_40 : decode cX7_layOrder 40 = .ok (.iload_n 3, 1) := by decide +kernel
theorem dX7_layOrder_41 : decode cX7_layOrder 41 = .ok (.ifCond .le 40, 3) := by decide +kernel
theorem dX7_layOrder_44 : decode cX7_layOrder 44 = .ok (.aload_n 0, 1) := by decide +kernel
theorem dX7_layOrder_45 : decode cX7_layOrder 45 = .ok (.aload_n 1, 1) := by decide +kernel
theorem dX7_layOrder_46 : decode cX7_layOrder 46 = .ok (.iload_n 2, 1) := by decide +kernel
theorem dX7_layOrder_47 : decode cX7_layOrder 47 = .ok (.aload_n 0, 1) := by decide +kernel
theorem dX7_layOrder_48 : decode cX7_layOrder 48 = .ok (.getfield 53, 3) := by decide +kernel
theorem dX7_layOrder_51 : decode cX7_layOrder 51 = .ok (.iload_n 3, 1) := by decide +kernel
theorem dX7_layOrder_52 : decode cX7_layOrder 52 = .ok (.iconst 1, 1) := by decide +kernel
theorem dX7_layOrder_53 : decode cX7_layOrder 53 = .ok (.isub, 1) := by decide +kernel
theorem dX7_layOrder_54 : decode cX7_layOrder 54 = .ok (.iaload, 1) := by decide +kernel
theorem dX7_layOrder_55 : decode cX7_layOrder 55 = .ok (.invokevirtual 156, 3) := by decide +kernel
theorem dX7_layOrder_58 : decode cX7_layOrder 58 = .ok (.ifCond .eq 23, 3) := by decide +kernel
theorem dX7_layOrder_61 : decode cX7_layOrder 61 = .ok (.aload_n 0, 1) := by decide +kernel
theorem dX7_layOrder_62 : decode cX7_layOrder 62 = .ok (.getfield 53, 3) := by decide +kernel
theorem dX7_layOrder_65 : decode cX7_layOrder 65 = .ok (.iload_n 3, 1) := by decide +kernel
theorem dX7_layOrder_66 : decode cX7_layOrder 66 = .ok (.aload_n 0, 1) := by decide +kernel
theorem dX7_layOrder_67 : decode cX7_layOrder 67 = .ok (.getfield 53, 3) := by decide +kernel
theorem dX7_layOrder_70 : decode cX7_layOrder 70 = .ok (.iload_n 3, 1) := by decide +kernel
theorem dX7_layOrder_71 : decode cX7_layOrder 71 = .ok (.iconst 1, 1) := by decide +kernel
theorem dX7_layOrder_72 : decode cX7_layOrder 72 = .ok (.isub, 1) := by decide +kernel
theorem dX7_layOrder_73 : decode cX7_layOrder 73 = .ok (.iaload, 1) := by decide +kernel
theorem dX7_layOrder_74 : decode cX7_layOrder 74 = .ok (.iastore, 1) := by decide +kernel
theorem dX7_layOrder_75 : decode cX7_layOrder 75 = .ok (.iinc 3 (-1), 3) := by decide +kernel
theorem dX7_layOrder_78 : decode cX7_layOrder 78 = .ok (.goto (-38), 3) := by decide +kernel
theorem dX7_layOrder_81 : decode cX7_layOrder 81 = .ok (.aload_n 0, 1) := by decide +kernel
theorem dX7_layOrder_82 : decode cX7_layOrder 82 = .ok (.getfield 53, 3) := by decide +kernel
theorem dX7_layOrder_85 : decode cX7_layOrder 85 = .ok (.iload_n 3, 1) := by decide +kernel
theorem dX7_layOrder_86 : decode cX7_layOrder 86 = .ok (.iload_n 2, 1) := by decide +kernel
theorem dX7_layOrder_87 : decode cX7_layOrder 87 = .ok (.iastore, 1) := by decide +kernel
theorem dX7_layOrder_88 : decode cX7_layOrder 88 = .ok (.aload_n 0, 1) := by decide +kernel
theorem dX7_layOrder_89 : decode cX7_layOrder 89 = .ok (.dup, 1) := by decide +kernel
theorem dX7_layOrder_90 : decode cX7_layOrder 90 = .ok (.getfield 153, 3) := by decide +kernel
theorem dX7_layOrder_93 : decode cX7_layOrder 93 = .ok (.iconst 1, 1) := by decide +kernel
theorem dX7_layOrder_94 : decode cX7_layOrder 94 = .ok (.iadd, 1) := by decide +kernel
theorem dX7_layOrder_95 : decode cX7_layOrder 95 = .ok (.putfield 153, 3) := by decide +kernel
theorem dX7_layOrder_98 : decode cX7_layOrder 98 = .ok (.iinc 2 1, 3) := by decide +kernel
theorem dX7_layOrder_101 : decode cX7_layOrder 101 = .ok (.goto (-94), 3) := by decide +kernel
theorem dX7_layOrder_104 : decode cX7_layOrder 104 = .ok (.return_, 1) := by decide +kernel
theorem dX7_capOf_0 : decode cX7_capOf 0 = .ok (.aload_n 1, 1) := by decide +kernel
theorem dX7_capOf_1 : decode cX7_capOf 1 = .ok (.iconst 0, 1) := by decide +kernel
theorem dX7_capOf_2 : decode cX7_capOf 2 = .ok (.iload_n 2, 1) := by decide +kernel
theorem dX7_capOf_3 : decode cX7_capOf 3 = .ok (.iadd, 1) := by decide +kernel
theorem dX7_capOf_4 : decode cX7_capOf 4 = .ok (.iaload, 1) := by decide +kernel
theorem dX7_capOf_5 : decode cX7_capOf 5 = .ok (.istore_n 3, 1) := by decide +kernel
theorem dX7_capOf_6 : decode cX7_capOf 6 = .ok (.aload_n 0, 1) := by decide +kernel
theorem dX7_capOf_7 : decode cX7_capOf 7 = .ok (.getfield 19, 3) := by decide +kernel
theorem dX7_capOf_10 : decode cX7_capOf 10 = .ok (.iload_n 3, 1) := by decide +kernel
theorem dX7_capOf_11 : decode cX7_capOf 11 = .ok (.iaload, 1) := by decide +kernel
theorem dX7_capOf_12 : decode cX7_capOf 12 = .ok (.aload_n 0, 1) := by decide +kernel
theorem dX7_capOf_13 : decode cX7_capOf 13 = .ok (.getfield 13, 3) := by decide +kernel
theorem dX7_capOf_16 : decode cX7_capOf 16 = .ok (.iload_n 2, 1) := by decide +kernel
theorem dX7_capOf_17 : decode cX7_capOf 17 = .ok (.iaload, 1) := by decide +kernel
theorem dX7_capOf_18 : decode cX7_capOf 18 = .ok (.if_icmp .ge 12, 3) := by decide +kernel
theorem dX7_capOf_21 : decode cX7_capOf 21 = .ok (.aload_n 0, 1) := by decide +kernel
theorem dX7_capOf_22 : decode cX7_capOf 22 = .ok (.getfield 19, 3) := by decide +kernel
theorem dX7_capOf_25 : decode cX7_capOf 25 = .ok (.iload_n 3, 1) := by decide +kernel
theorem dX7_capOf_26 : decode cX7_capOf 26 = .ok (.iaload, 1) := by decide +kernel
theorem dX7_capOf_27 : decode cX7_capOf 27 = .ok (.goto 9, 3) := by decide +kernel
theorem dX7_capOf_30 : decode cX7_capOf 30 = .ok (.aload_n 0, 1) := by decide +kernel
theorem dX7_capOf_31 : decode cX7_capOf 31 = .ok (.getfield 13, 3) := by decide +kernel
theorem dX7_capOf_34 : decode cX7_capOf 34 = .ok (.iload_n 2, 1) := by decide +kernel
theorem dX7_capOf_35 : decode cX7_capOf 35 = .ok (.iaload, 1) := by decide +kernel
theorem dX7_capOf_36 : decode cX7_capOf 36 = .ok (.istore 4, 2) := by decide +kernel
theorem dX7_capOf_38 : decode cX7_capOf 38 = .ok (.aload_n 1, 1) := by decide +kernel
theorem dX7_capOf_39 : decode cX7_capOf 39 = .ok (.bipush 32, 2) := by decide +kernel
theorem dX7_capOf_41 : decode cX7_capOf 41 = .ok (.iload_n 3, 1) := by decide +kernel
theorem dX7_capOf_42 : decode cX7_capOf 42 = .ok (.iadd, 1) := by decide +kernel
theorem dX7_capOf_43 : decode cX7_capOf 43 = .ok (.iaload, 1) := by decide +kernel
theorem dX7_capOf_44 : decode cX7_capOf 44 = .ok (.iload 4, 2) := by decide +kernel
theorem dX7_capOf_46 : decode cX7_capOf 46 = .ok (.if_icmp .ge 12, 3) := by decide +kernel
theorem dX7_capOf_49 : decode cX7_capOf 49 = .ok (.aload_n 1, 1) := by decide +kernel
theorem dX7_capOf_50 : decode cX7_capOf 50 = .ok (.bipush 32, 2) := by decide +kernel
theorem dX7_capOf_52 : decode cX7_capOf 52 = .ok (.iload_n 3, 1) := by decide +kernel
theorem dX7_capOf_53 : decode cX7_capOf 53 = .ok (.iadd, 1) := by decide +kernel
theorem dX7_capOf_54 : decode cX7_capOf 54 = .ok (.iaload, 1) := by decide +kernel
theorem dX7_capOf_55 : decode cX7_capOf 55 = .ok (.goto 5, 3) := by decide +kernel
theorem dX7_capOf_58 : decode cX7_capOf 58 = .ok (.iload 4, 2) := by decide +kernel
theorem dX7_capOf_60 : decode cX7_capOf 60 = .ok (.istore 4, 2) := by decide +kernel
theorem dX7_capOf_62 : decode cX7_capOf 62 = .ok (.aload_n 0, 1) := by decide +kernel
theorem dX7_capOf_63 : decode cX7_capOf 63 = .ok (.aload_n 1, 1) := by decide +kernel
theorem dX7_capOf_64 : decode cX7_capOf 64 = .ok (.iload_n 2, 1) := by decide +kernel
theorem dX7_capOf_65 : decode cX7_capOf 65 = .ok (.invokevirtual 146, 3) := by decide +kernel
theorem dX7_capOf_68 : decode cX7_capOf 68 = .ok (.ifCond .eq 13, 3) := by decide +kernel
theorem dX7_capOf_71 : decode cX7_capOf 71 = .ok (.iload 4, 2) := by decide +kernel
theorem dX7_capOf_73 : decode cX7_capOf 73 = .ok (.iconst 2, 1) := by decide +kernel
theorem dX7_capOf_74 : decode cX7_capOf 74 = .ok (.if_icmp .le 7, 3) := by decide +kernel
theorem dX7_capOf_77 : decode cX7_capOf 77 = .ok (.iconst 2, 1) := by decide +kernel
theorem dX7_capOf_78 : decode cX7_capOf 78 = .ok (.goto 5, 3) := by decide +kernel
theorem dX7_capOf_81 : decode cX7_capOf 81 = .ok (.iload 4, 2) := by decide +kernel
theorem dX7_capOf_83 : decode cX7_capOf 83 = .ok (.ireturn, 1) := by decide +kernel
theorem dX7_give_0 : decode cX7_give 0 = .ok (.aload_n 1, 1) := by decide +kernel
theorem dX7_give_1 : decode cX7_give 1 = .ok (.bipush 38, 2) := by decide +kernel
theorem dX7_give_3 : decode cX7_give 3 = .ok (.iaload, 1) := by decide +kernel
theorem dX7_give_4 : decode cX7_give 4 = .ok (.istore_n 2, 1) := by decide +kernel
theorem dX7_give_5 : decode cX7_give 5 = .ok (.iconst 0, 1) := by decide +kernel
theorem dX7_give_6 : decode cX7_give 6 = .ok (.istore_n 3, 1) := by decide +kernel
theorem dX7_give_7 : decode cX7_give 7 = .ok (.iload_n 3, 1) := by decide +kernel
theorem dX7_give_8 : decode cX7_give 8 = .ok (.aload_n 0, 1) := by decide +kernel
theorem dX7_give_9 : decode cX7_give 9 = .ok (.getfield 153, 3) := by decide +kernel
theorem dX7_give_12 : decode cX7_give 12 = .ok (.if_icmp .ge 33, 3) := by decide +kernel
theorem dX7_give_15 : decode cX7_give 15 = .ok (.aload_n 0, 1) := by decide +kernel
theorem dX7_give_16 : decode cX7_give 16 = .ok (.getfield 56, 3) := by decide +kernel
theorem dX7_give_19 : decode cX7_give 19 = .ok (.iload_n 3, 1) := by decide +kernel
theorem dX7_give_20 : decode cX7_give 20 = .ok (.iload_n 2, 1) := by decide +kernel
theorem dX7_give_21 : decode cX7_give 21 = .ok (.ifCond .le 7, 3) := by decide +kernel
theorem dX7_give_24 : decode cX7_give 24 = .ok (.iconst 1, 1) := by decide +kernel
theorem dX7_give_25 : decode cX7_give 25 = .ok (.goto 4, 3) := by decide +kernel
theorem dX7_give_28 : decode cX7_give 28 = .ok (.iconst 0, 1) := by decide +kernel
theorem dX7_give_29 : decode cX7_give 29 = .ok (.iastore, 1) := by decide +kernel
theorem dX7_give_30 : decode cX7_give 30 = .ok (.iload_n 2, 1) := by decide +kernel
theorem dX7_give_31 : decode cX7_give 31 = .ok (.aload_n 0, 1) := by decide +kernel
theorem dX7_give_32 : decode cX7_give 32 = .ok (.getfield 56, 3) := by decide +kernel
theorem dX7_give_35 : decode cX7_give 35 = .ok (.iload_n 3, 1) := by decide +kernel
theorem dX7_give_36 : decode cX7_give 36 = .ok (.iaload, 1) := by decide +kernel
theorem dX7_give_37 : decode cX7_give 37 = .ok (.isub, 1) := by decide +kernel
theorem dX7_give_38 : decode cX7_give 38 = .ok (.istore_n 2, 1) := by decide +kernel
theorem dX7_give_39 : decode cX7_give 39 = .ok (.iinc 3 1, 3) := by decide +kernel
theorem dX7_give_42 : decode cX7_give 42 = .ok (.goto (-35), 3) := by decide +kernel
theorem dX7_give_45 : decode cX7_give 45 = .ok (.iconst 0, 1) := by decide +kernel
theorem dX7_give_46 : decode cX7_give 46 = .ok (.istore_n 3, 1) := by decide +kernel
theorem dX7_give_47 : decode cX7_give 47 = .ok (.iload_n 3, 1) := by decide +kernel
theorem dX7_give_48 : decode cX7_give 48 = .ok (.aload_n 0, 1) := by decide +kernel
theorem dX7_give_49 : decode cX7_give 49 = .ok (.getfield 153, 3) := by decide +kernel
theorem dX7_give_52 : decode cX7_give 52 = .ok (.if_icmp .ge 59, 3) := by decide +kernel
theorem dX7_give_55 : decode cX7_give 55 = .ok (.aload_n 0, 1) := by decide +kernel
theorem dX7_give_56 : decode cX7_give 56 = .ok (.aload_n 1, 1) := by decide +kernel
theorem dX7_give_57 : decode cX7_give 57 = .ok (.aload_n 0, 1) := by decide +kernel
theorem dX7_give_58 : decode cX7_give 58 = .ok (.getfield 53, 3) := by decide +kernel
theorem dX7_give_61 : decode cX7_give 61 = .ok (.iload_n 3, 1) := by decide +kernel
theorem dX7_give_62 : decode cX7_give 62 = .ok (.iaload, 1) := by decide +kernel
theorem dX7_give_63 : decode cX7_give 63 = .ok (.invokevirtual 160, 3) := by decide +kernel
theorem dX7_give_66 : decode cX7_give 66 = .ok (.aload_n 0, 1) := by decide +kernel
theorem dX7_give_67 : decode cX7_give 67 = .ok (.getfield 56, 3) := by decide +kernel
theorem dX7_give_70 : decode cX7_give 70 = .ok (.iload_n 3, 1) := by decide +kernel
theorem dX7_give_71 : decode cX7_give 71 = .ok (.iaload, 1) := by decide +kernel
theorem dX7_give_72 : decode cX7_give 72 = .ok (.isub, 1) := by decide +kernel
theorem dX7_give_73 : decode cX7_give 73 = .ok (.istore 4, 2) := by decide +kernel
theorem dX7_give_75 : decode cX7_give 75 = .ok (.iload 4, 2) := by decide +kernel
theorem dX7_give_77 : decode cX7_give 77 = .ok (.iload_n 2, 1) := by decide +kernel
theorem dX7_give_78 : decode cX7_give 78 = .ok (.if_icmp .le 7, 3) := by decide +kernel
theorem dX7_give_81 : decode cX7_give 81 = .ok (.iload_n 2, 1) := by decide +kernel
theorem dX7_give_82 : decode cX7_give 82 = .ok (.goto 5, 3) := by decide +kernel
theorem dX7_give_85 : decode cX7_give 85 = .ok (.iload 4, 2) := by decide +kernel
theorem dX7_give_87 : decode cX7_give 87 = .ok (.istore 4, 2) := by decide +kernel
theorem dX7_give_89 : decode cX7_give 89 = .ok (.aload_n 0, 1) := by decide +kernel
theorem dX7_give_90 : decode cX7_give 90 = .ok (.getfield 56, 3) := by decide +kernel
theorem dX7_give_93 : decode cX7_give 93 = .ok (.iload_n 3, 1) := by decide +kernel
theorem dX7_give_94 : decode cX7_give 94 = .ok (.dup2, 1) := by decide +kernel
theorem dX7_give_95 : decode cX7_give 95 = .ok (.iaload, 1) := by decide +kernel
theorem dX7_give_96 : decode cX7_give 96 = .ok (.iload 4, 2) := by decide +kernel
theorem dX7_give_98 : decode cX7_give 98 = .ok (.iadd, 1) := by decide +kernel
theorem dX7_give_99 : decode cX7_give 99 = .ok (.iastore, 1) := by decide +kernel
theorem dX7_give_100 : decode cX7_give 100 = .ok (.iload_n 2, 1) := by decide +kernel
theorem dX7_give_101 : decode cX7_give 101 = .ok (.iload 4, 2) := by decide +kernel
theorem dX7_give_103 : decode cX7_give 103 = .ok (.isub, 1) := by decide +kernel
theorem dX7_give_104 : decode cX7_give 104 = .ok (.istore_n 2, 1) := by decide +kernel
theorem dX7_give_105 : decode cX7_give 105 = .ok (.iinc 3 1, 3) := by decide +kernel
theorem dX7_give_108 : decode cX7_give 108 = .ok (.goto (-61), 3) := by decide +kernel
theorem dX7_give_111 : decode cX7_give 111 = .ok (.return_, 1) := by decide +kernel
theorem dX7_signedBy_0 : decode cX7_signedBy 0 = .ok (.bipush 31, 2) := by decide +kernel
theorem dX7_signedBy_2 : decode cX7_signedBy 2 = .ok (.iload_n 0, 1) := by decide +kernel
theorem dX7_signedBy_3 : decode cX7_signedBy 3 = .ok (.imul, 1) := by decide +kernel
theorem dX7_signedBy_4 : decode cX7_signedBy 4 = .ok (.bipush 7, 2) := by decide +kernel
theorem dX7_signedBy_6 : decode cX7_signedBy 6 = .ok (.iload_n 1, 1) := by decide +kernel
theorem dX7_signedBy_7 : decode cX7_signedBy 7 = .ok (.imul, 1) := by decide +kernel
theorem dX7_signedBy_8 : decode cX7_signedBy 8 = .ok (.iadd, 1) := by decide +kernel
theorem dX7_signedBy_9 : decode cX7_signedBy 9 = .ok (.iload_n 2, 1) := by decide +kernel
theorem dX7_signedBy_10 : decode cX7_signedBy 10 = .ok (.iadd, 1) := by decide +kernel
theorem dX7_signedBy_11 : decode cX7_signedBy 11 = .ok (.iconst 1, 1) := by decide +kernel
theorem dX7_signedBy_12 : decode cX7_signedBy 12 = .ok (.iadd, 1) := by decide +kernel
theorem dX7_signedBy_13 : decode cX7_signedBy 13 = .ok (.sipush 9973, 3) := by decide +kernel
theorem dX7_signedBy_16 : decode cX7_signedBy 16 = .ok (.irem, 1) := by decide +kernel
theorem dX7_signedBy_17 : decode cX7_signedBy 17 = .ok (.ireturn, 1) := by decide +kernel
theorem dX7_draw_0 : decode cX7_draw 0 = .ok (.aload_n 1, 1) := by decide +kernel
theorem dX7_draw_1 : decode cX7_draw 1 = .ok (.iconst 0, 1) := by decide +kernel
theorem dX7_draw_2 : decode cX7_draw 2 = .ok (.iload_n 2, 1) := by decide +kernel
theorem dX7_draw_3 : decode cX7_draw 3 = .ok (.iadd, 1) := by decide +kernel
theorem dX7_draw_4 : decode cX7_draw 4 = .ok (.iaload, 1) := by decide +kernel
theorem dX7_draw_5 : decode cX7_draw 5 = .ok (.istore 4, 2) := by decide +kernel
theorem dX7_draw_7 : decode cX7_draw 7 = .ok (.iload_n 3, 1) := by decide +kernel
theorem dX7_draw_8 : decode cX7_draw 8 = .ok (.istore 5, 2) := by decide +kernel
theorem dX7_draw_10 : decode cX7_draw 10 = .ok (.aload_n 0, 1) := by decide +kernel
theorem dX7_draw_11 : decode cX7_draw 11 = .ok (.iload 4, 2) := by decide +kernel
theorem dX7_draw_13 : decode cX7_draw 13 = .ok (.invokevirtual 138, 3) := by decide +kernel
theorem dX7_draw_16 : decode cX7_draw 16 = .ok (.iconst 1, 1) := by decide +kernel
theorem dX7_draw_17 : decode cX7_draw 17 = .ok (.if_icmp .ne 16, 3) := by decide +kernel
theorem dX7_draw_20 : decode cX7_draw 20 = .ok (.iinc 5 1, 3) := by decide +kernel
theorem dX7_draw_23 : decode cX7_draw 23 = .ok (.aload_n 1, 1) := by decide +kernel
theorem dX7_draw_24 : decode cX7_draw 24 = .ok (.bipush 20, 2) := by decide +kernel
theorem dX7_draw_26 : decode cX7_draw 26 = .ok (.iload_n 2, 1) := by decide +kernel
theorem dX7_draw_27 : decode cX7_draw 27 = .ok (.iadd, 1) := by decide +kernel
theorem dX7_draw_28 : decode cX7_draw 28 = .ok (.dup2, 1) := by decide +kernel
theorem dX7_draw_29 : decode cX7_draw 29 = .ok (.iaload, 1) := by decide +kernel
theorem dX7_draw_30 : decode cX7_draw 30 = .ok (.iconst 1, 1) := by decide +kernel
theorem dX7_draw_31 : decode cX7_draw 31 = .ok (.iadd, 1) := by decide +kernel
theorem dX7_draw_32 : decode cX7_draw 32 = .ok (.iastore, 1) := by decide +kernel
theorem dX7_draw_33 : decode cX7_draw 33 = .ok (.aload_n 1, 1) := by decide +kernel
theorem dX7_draw_34 : decode cX7_draw 34 = .ok (.bipush 32, 2) := by decide +kernel
theorem dX7_draw_36 : decode cX7_draw 36 = .ok (.iload 4, 2) := by decide +kernel
theorem dX7_draw_38 : decode cX7_draw 38 = .ok (.iadd, 1) := by decide +kernel
theorem dX7_draw_39 : decode cX7_draw 39 = .ok (.aload_n 1, 1) := by decide +kernel
theorem dX7_draw_40 : decode cX7_draw 40 = .ok (.bipush 32, 2) := by decide +kernel
theorem dX7_draw_42 : decode cX7_draw 42 = .ok (.iload 4, 2) := by decide +kernel
theorem dX7_draw_44 : decode cX7_draw 44 = .ok (.iadd, 1) := by decide +kernel
theorem dX7_draw_45 : decode cX7_draw 45 = .ok (.iaload, 1) := by decide +kernel
theorem dX7_draw_46 : decode cX7_draw 46 = .ok (.iload 5, 2) := by decide +kernel
theorem dX7_draw_48 : decode cX7_draw 48 = .ok (.if_icmp .le 16, 3) := by decide +kernel
theorem dX7_draw_51 : decode cX7_draw 51 = .ok (.aload_n 1, 1) := by decide +kernel
theorem dX7_draw_52 : decode cX7_draw 52 = .ok (.bipush 32, 2) := by decide +kernel
theorem dX7_draw_54 : decode cX7_draw 54 = .ok (.iload 4, 2) := by decide +kernel
theorem dX7_draw_56 : decode cX7_draw 56 = .ok (.iadd, 1) := by decide +kernel
theorem dX7_draw_57 : decode cX7_draw 57 = .ok (.iaload, 1) := by decide +kernel
theorem dX7_draw_58 : decode cX7_draw 58 = .ok (.iload 5, 2) := by decide +kernel
theorem dX7_draw_60 : decode cX7_draw 60 = .ok (.isub, 1) := by decide +kernel
theorem dX7_draw_61 : decode cX7_draw 61 = .ok (.goto 4, 3) := by decide +kernel
theorem dX7_draw_64 : decode cX7_draw 64 = .ok (.iconst 0, 1) := by decide +kernel
theorem dX7_draw_65 : decode cX7_draw 65 = .ok (.iastore, 1) := by decide +kernel
theorem dX7_draw_66 : decode cX7_draw 66 = .ok (.aload_n 1, 1) := by decide +kernel
theorem dX7_draw_67 : decode cX7_draw 67 = .ok (.bipush 24, 2) := by decide +kernel
theorem dX7_draw_69 : decode cX7_draw 69 = .ok (.iload_n 2, 1) := by decide +kernel
theorem dX7_draw_70 : decode cX7_draw 70 = .ok (.iadd, 1) := by decide +kernel
theorem dX7_draw_71 : decode cX7_draw 71 = .ok (.dup2, 1) := by decide +kernel
theorem dX7_draw_72 : decode cX7_draw 72 = .ok (.iaload, 1) := by decide +kernel
theorem dX7_draw_73 : decode cX7_draw 73 = .ok (.iload 5, 2) := by decide +kernel
theorem dX7_draw_75 : decode cX7_draw 75 = .ok (.iadd, 1) := by decide +kernel
theorem dX7_draw_76 : decode cX7_draw 76 = .ok (.iastore, 1) := by decide +kernel
theorem dX7_draw_77 : decode cX7_draw 77 = .ok (.aload_n 1, 1) := by decide +kernel
theorem dX7_draw_78 : decode cX7_draw 78 = .ok (.bipush 28, 2) := by decide +kernel
theorem dX7_draw_80 : decode cX7_draw 80 = .ok (.iload_n 2, 1) := by decide +kernel
theorem dX7_draw_81 : decode cX7_draw 81 = .ok (.iadd, 1) := by decide +kernel
theorem dX7_draw_82 : decode cX7_draw 82 = .ok (.aload_n 1, 1) := by decide +kernel
theorem dX7_draw_83 : decode cX7_draw 83 = .ok (.bipush 28, 2) := by decide +kernel
theorem dX7_draw_85 : decode cX7_draw 85 = .ok (.iload_n 2, 1) := by decide +kernel
theorem dX7_draw_86 : decode cX7_draw 86 = .ok (.iadd, 1) := by decide +kernel
theorem dX7_draw_87 : decode cX7_draw 87 = .ok (.iaload, 1) := by decide +kernel
theorem dX7_draw_88 : decode cX7_draw 88 = .ok (.iload 5, 2) := by decide +kernel
theorem dX7_draw_90 : decode cX7_draw 90 = .ok (.iload_n 2, 1) := by decide +kernel
theorem dX7_draw_91 : decode cX7_draw 91 = .ok (.invokestatic 164, 3) := by decide +kernel
theorem dX7_draw_94 : decode cX7_draw 94 = .ok (.iastore, 1) := by decide +kernel
theorem dX7_draw_95 : decode cX7_draw 95 = .ok (.aload_n 1, 1) := by decide +kernel
theorem dX7_draw_96 : decode cX7_draw 96 = .ok (.bipush 20, 2) := by decide +kernel
theorem dX7_draw_98 : decode cX7_draw 98 = .ok (.iload_n 2, 1) := by decide +kernel
theorem dX7_draw_99 : decode cX7_draw 99 = .ok (.iadd, 1) := by decide +kernel
theorem dX7_draw_100 : decode cX7_draw 100 = .ok (.iaload, 1) := by decide +kernel
theorem dX7_draw_101 : decode cX7_draw 101 = .ok (.iconst 2, 1) := by decide +kernel
theorem dX7_draw_102 : decode cX7_draw 102 = .ok (.if_icmp .ne 16, 3) := by decide +kernel
theorem dX7_draw_105 : decode cX7_draw 105 = .ok (.aload_n 1, 1) := by decide +kernel
theorem dX7_draw_106 : decode cX7_draw 106 = .ok (.iconst 4, 1) := by decide +kernel
theorem dX7_draw_107 : decode cX7_draw 107 = .ok (.iload_n 2, 1) := by decide +kernel
theorem dX7_draw_108 : decode cX7_draw 108 = .ok (.iadd, 1) := by decide +kernel
theorem dX7_draw_109 : decode cX7_draw 109 = .ok (.iconst 4, 1) := by decide +kernel
theorem dX7_draw_110 : decode cX7_draw 110 = .ok (.iastore, 1) := by decide +kernel
theorem dX7_draw_111 : decode cX7_draw 111 = .ok (.aload_n 1, 1) := by decide +kernel
theorem dX7_draw_112 : decode cX7_draw 112 = .ok (.bipush 20, 2) := by decide +kernel
theorem dX7_draw_114 : decode cX7_draw 114 = .ok (.iload_n 2, 1) := by decide +kernel
theorem dX7_draw_115 : decode cX7_draw 115 = .ok (.iadd, 1) := by decide +kernel
theorem dX7_draw_116 : decode cX7_draw 116 = .ok (.iconst 0, 1) := by decide +kernel
theorem dX7_draw_117 : decode cX7_draw 117 = .ok (.iastore, 1) := by decide +kernel
theorem dX7_draw_118 : decode cX7_draw 118 = .ok (.return_, 1) := by decide +kernel
theorem dX7_minuteOn_0 : decode cX7_minuteOn 0 = .ok (.aload_n 0, 1) := by decide +kernel
theorem dX7_minuteOn_1 : decode cX7_minuteOn 1 = .ok (.aload_n 1, 1) := by decide +kernel
theorem dX7_minuteOn_2 : decode cX7_minuteOn 2 = .ok (.iload_n 2, 1) := by decide +kernel
theorem dX7_minuteOn_3 : decode cX7_minuteOn 3 = .ok (.invokevirtual 168, 3) := by decide +kernel
theorem dX7_minuteOn_6 : decode cX7_minuteOn 6 = .ok (.aload_n 0, 1) := by decide +kernel
theorem dX7_minuteOn_7 : decode cX7_minuteOn 7 = .ok (.aload_n 1, 1) := by decide +kernel
theorem dX7_minuteOn_8 : decode cX7_minuteOn 8 = .ok (.invokevirtual 172, 3) := by decide +kernel
theorem dX7_minuteOn_11 : decode cX7_minuteOn 11 = .ok (.aload_n 0, 1) := by decide +kernel
theorem dX7_minuteOn_12 : decode cX7_minuteOn 12 = .ok (.aload_n 1, 1) := by decide +kernel
theorem dX7_minuteOn_13 : decode cX7_minuteOn 13 = .ok (.invokevirtual 176, 3) := by decide +kernel
theorem dX7_minuteOn_16 : decode cX7_minuteOn 16 = .ok (.aload_n 0, 1) := by decide +kernel
theorem dX7_minuteOn_17 : decode cX7_minuteOn 17 = .ok (.aload_n 1, 1) := by decide +kernel
theorem dX7_minuteOn_18 : decode cX7_minuteOn 18 = .ok (.invokevirtual 179, 3) := by decide +kernel
theorem dX7_minuteOn_21 : decode cX7_minuteOn 21 = .ok (.iconst 0, 1) := by decide +kernel
theorem dX7_minuteOn_22 : decode cX7_minuteOn 22 = .ok (.istore_n 3, 1) := by decide +kernel
theorem dX7_minuteOn_23 : decode cX7_minuteOn 23 = .ok (.iload_n 3, 1) := by decide +kernel
theorem dX7_minuteOn_24 : decode cX7_minuteOn 24 = .ok (.aload_n 0, 1) := by decide +kernel
theorem dX7_minuteOn_25 : decode cX7_minuteOn 25 = .ok (.getfield 153, 3) := by decide +kernel
theorem dX7_minuteOn_28 : decode cX7_minuteOn 28 = .ok (.if_icmp .ge 35, 3) := by decide +kernel
theorem dX7_minuteOn_31 : decode cX7_minuteOn 31 = .ok (.aload_n 0, 1) := by decide +kernel
theorem dX7_minuteOn_32 : decode cX7_minuteOn 32 = .ok (.getfield 56, 3) := by decide +kernel
theorem dX7_minuteOn_35 : decode cX7_minuteOn 35 = .ok (.iload_n 3, 1) := by decide +kernel
theorem dX7_minuteOn_36 : decode cX7_minuteOn 36 = .ok (.iaload, 1) := by decide +kernel
theorem dX7_minuteOn_37 : decode cX7_minuteOn 37 = .ok (.ifCond .le 20, 3) := by decide +kernel
theorem dX7_minuteOn_40 : decode cX7_minuteOn 40 = .ok (.aload_n 0, 1) := by decide +kernel
theorem dX7_minuteOn_41 : decode cX7_minuteOn 41 = .ok (.aload_n 1, 1) := by decide +kernel
theorem dX7_minuteOn_42 : decode cX7_minuteOn 42 = .ok (.aload_n 0, 1) := by decide +kernel
theorem dX7_minuteOn_43 : decode cX7_minuteOn 43 = .ok (.getfield 53, 3) := by decide +kernel
theorem dX7_minuteOn_46 : decode cX7_minuteOn 46 = .ok (.iload_n 3, 1) := by decide +kernel
theorem dX7_minuteOn_47 : decode cX7_minuteOn 47 = .ok (.iaload, 1) := by decide +kernel
theorem dX7_minuteOn_48 : decode cX7_minuteOn 48 = .ok (.aload_n 0, 1) := by decide +kernel
theorem dX7_minuteOn_49 : decode cX7_minuteOn 49 = .ok (.getfield 56, 3) := by decide +kernel
theorem dX7_minuteOn_52 : decode cX7_minuteOn 52 = .ok (.iload_n 3, 1) := by decide +kernel
theorem dX7_minuteOn_53 : decode cX7_minuteOn 53 = .ok (.iaload, 1) := by decide +kernel
theorem dX7_minuteOn_54 : decode cX7_minuteOn 54 = .ok (.invokevirtual 182, 3) := by decide +kernel
theorem dX7_minuteOn_57 : decode cX7_minuteOn 57 = .ok (.iinc 3 1, 3) := by decide +kernel
theorem dX7_minuteOn_60 : decode cX7_minuteOn 60 = .ok (.goto (-37), 3) := by decide +kernel
theorem dX7_minuteOn_63 : decode cX7_minuteOn 63 = .ok (.aload_n 1, 1) := by decide +kernel
theorem dX7_minuteOn_64 : decode cX7_minuteOn 64 = .ok (.bipush 39, 2) := by decide +kernel
theorem dX7_minuteOn_66 : decode cX7_minuteOn 66 = .ok (.dup2, 1) := by decide +kernel
theorem dX7_minuteOn_67 : decode cX7_minuteOn 67 = .ok (.iaload, 1) := by decide +kernel
theorem dX7_minuteOn_68 : decode cX7_minuteOn 68 = .ok (.iconst 1, 1) := by decide +kernel
theorem dX7_minuteOn_69 : decode cX7_minuteOn 69 = .ok (.iadd, 1) := by decide +kernel
theorem dX7_minuteOn_70 : decode cX7_minuteOn 70 = .ok (.iastore, 1) := by decide +kernel
theorem dX7_minuteOn_71 : decode cX7_minuteOn 71 = .ok (.return_, 1) := by decide +kernel
theorem dX7_tryMinutes_0 : decode cX7_tryMinutes 0 = .ok (.iconst 0, 1) := by decide +kernel
theorem dX7_tryMinutes_1 : decode cX7_tryMinutes 1 = .ok (.istore_n 3, 1) := by decide +kernel
theorem dX7_tryMinutes_2 : decode cX7_tryMinutes 2 = .ok (.iload_n 3, 1) := by decide +kernel
theorem dX7_tryMinutes_3 : decode cX7_tryMinutes 3 = .ok (.iload_n 1, 1) := by decide +kernel
theorem dX7_tryMinutes_4 : decode cX7_tryMinutes 4 = .ok (.if_icmp .ge 18, 3) := by decide +kernel
theorem dX7_tryMinutes_7 : decode cX7_tryMinutes 7 = .ok (.aload_n 0, 1) := by decide +kernel
theorem dX7_tryMinutes_8 : decode cX7_tryMinutes 8 = .ok (.aload_n 0, 1) := by decide +kernel
theorem dX7_tryMinutes_9 : decode cX7_tryMinutes 9 = .ok (.getfield 31, 3) := by decide +kernel
theorem dX7_tryMinutes_12 : decode cX7_tryMinutes 12 = .ok (.iload_n 2, 1) := by decide +kernel
theorem dX7_tryMinutes_13 : decode cX7_tryMinutes 13 = .ok (.invokevirtual 186, 3) := by decide +kernel
theorem dX7_tryMinutes_16 : decode cX7_tryMinutes 16 = .ok (.iinc 3 1, 3) := by decide +kernel
theorem dX7_tryMinutes_19 : decode cX7_tryMinutes 19 = .ok (.goto (-17), 3) := by decide +kernel
theorem dX7_tryMinutes_22 : decode cX7_tryMinutes 22 = .ok (.return_, 1) := by decide +kernel
theorem dX7_inState_0 : decode cX7_inState 0 = .ok (.iconst 0, 1) := by decide +kernel
theorem dX7_inState_1 : decode cX7_inState 1 = .ok (.istore_n 3, 1) := by decide +kernel
theorem dX7_inState_2 : decode cX7_inState 2 = .ok (.iconst 0, 1) := by decide +kernel
theorem dX7_inState_3 : decode cX7_inState 3 = .ok (.istore 4, 2) := by decide +kernel
theorem dX7_inState_5 : decode cX7_inState 5 = .ok (.iload 4, 2) := by decide +kernel
theorem dX7_inState_7 : decode cX7_inState 7 = .ok (.aload_n 0, 1) := by decide +kernel
theorem dX7_inState_8 : decode cX7_inState 8 = .ok (.getfield 90, 3) := by decide +kernel
theorem dX7_inState_11 : decode cX7_inState 11 = .ok (.if_icmp .ge 30, 3) := by decide +kernel
theorem dX7_inState_14 : decode cX7_inState 14 = .ok (.iload_n 3, 1) := by decide +kernel
theorem dX7_inState_15 : decode cX7_inState 15 = .ok (.aload_n 1, 1) := by decide +kernel
theorem dX7_inState_16 : decode cX7_inState 16 = .ok (.iconst 4, 1) := by decide +kernel
theorem dX7_inState_17 : decode cX7_inState 17 = .ok (.iload 4, 2) := by decide +kernel
theorem dX7_inState_19 : decode cX7_inState 19 = .ok (.iadd, 1) := by decide +kernel
theorem dX7_inState_20 : decode cX7_inState 20 = .ok (.iaload, 1) := by decide +kernel
theorem dX7_inState_21 : decode cX7_inState 21 = .ok (.iload_n 2, 1) := by decide +kernel
theorem dX7_inState_22 : decode cX7_inState 22 = .ok (.if_icmp .ne 10, 3) := by decide +kernel
theorem dX7_inState_25 : decode cX7_inState 25 = .ok (.iconst 1, 1) := by decide +kernel
theorem dX7_inState_26 : decode cX7_inState 26 = .ok (.iload 4, 2) := by decide +kernel
theorem dX7_inState_28 : decode cX7_inState 28 = .ok (.ishl, 1) := by decide +kernel
theorem dX7_inState_29 : decode cX7_inState 29 = .ok (.goto 4, 3) := by decide +kernel
theorem dX7_inState_32 : decode cX7_inState 32 = .ok (.iconst 0, 1) := by decide +kernel
theorem dX7_inState_33 : decode cX7_inState 33 = .ok (.ior, 1) := by decide +kernel
theorem dX7_inState_34 : decode cX7_inState 34 = .ok (.istore_n 3, 1) := by decide +kernel
theorem dX7_inState_35 : decode cX7_inState 35 = .ok (.iinc 4 1, 3) := by decide +kernel
theorem dX7_inState_38 : decode cX7_inState 38 = .ok (.goto (-33), 3) := by decide +kernel
theorem dX7_inState_41 : decode cX7_inState 41 = .ok (.iload_n 3, 1) := by decide +kernel
theorem dX7_inState_42 : decode cX7_inState 42 = .ok (.ireturn, 1) := by decide +kernel
theorem dX7_meters_0 : decode cX7_meters 0 = .ok (.iconst 0, 1) := by decide +kernel
theorem dX7_meters_1 : decode cX7_meters 1 = .ok (.istore_n 2, 1) := by decide +kernel
theorem dX7_meters_2 : decode cX7_meters 2 = .ok (.iconst 0, 1) := by decide +kernel
theorem dX7_meters_3 : decode cX7_meters 3 = .ok (.istore_n 3, 1) := by decide +kernel
theorem dX7_meters_4 : decode cX7_meters 4 = .ok (.iload_n 3, 1) := by decide +kernel
theorem dX7_meters_5 : decode cX7_meters 5 = .ok (.aload_n 0, 1) := by decide +kernel
theorem dX7_meters_6 : decode cX7_meters 6 = .ok (.getfield 90, 3) := by decide +kernel
theorem dX7_meters_9 : decode cX7_meters 9 = .ok (.if_icmp .ge 18, 3) := by decide +kernel
theorem dX7_meters_12 : decode cX7_meters 12 = .ok (.iload_n 2, 1) := by decide +kernel
theorem dX7_meters_13 : decode cX7_meters 13 = .ok (.aload_n 1, 1) := by decide +kernel
theorem dX7_meters_14 : decode cX7_meters 14 = .ok (.bipush 24, 2) := by decide +kernel
theorem dX7_meters_16 : decode cX7_meters 16 = .ok (.iload_n 3, 1) := by decide +kernel
theorem dX7_meters_17 : decode cX7_meters 17 = .ok (.iadd, 1) := by decide +kernel
theorem dX7_meters_18 : decode cX7_meters 18 = .ok (.iaload, 1) := by decide +kernel
theorem dX7_meters_19 : decode cX7_meters 19 = .ok (.iadd, 1) := by decide +kernel
theorem dX7_meters_20 : decode cX7_meters 20 = .ok (.istore_n 2, 1) := by decide +kernel
theorem dX7_meters_21 : decode cX7_meters 21 = .ok (.iinc 3 1, 3) := by decide +kernel
theorem dX7_meters_24 : decode cX7_meters 24 = .ok (.goto (-20), 3) := by decide +kernel
theorem dX7_meters_27 : decode cX7_meters 27 = .ok (.iload_n 2, 1) := by decide +kernel
theorem dX7_meters_28 : decode cX7_meters 28 = .ok (.ireturn, 1) := by decide +kernel
theorem dX7_left_0 : decode cX7_left 0 = .ok (.iconst 0, 1) := by decide +kernel
theorem dX7_left_1 : decode cX7_left 1 = .ok (.istore_n 1, 1) := by decide +kernel
theorem dX7_left_2 : decode cX7_left 2 = .ok (.iconst 0, 1) := by decide +kernel
theorem dX7_left_3 : decode cX7_left 3 = .ok (.istore_n 2, 1) := by decide +kernel
theorem dX7_left_4 : decode cX7_left 4 = .ok (.iload_n 2, 1) := by decide +kernel
theorem dX7_left_5 : decode cX7_left 5 = .ok (.aload_n 0, 1) := by decide +kernel
theorem dX7_left_6 : decode cX7_left 6 = .ok (.getfield 97, 3) := by decide +kernel
theorem dX7_left_9 : decode cX7_left 9 = .ok (.if_icmp .ge 21, 3) := by decide +kernel
theorem dX7_left_12 : decode cX7_left 12 = .ok (.iload_n 1, 1) := by decide +kernel
theorem dX7_left_13 : decode cX7_left 13 = .ok (.aload_n 0, 1) := by decide +kernel
theorem dX7_left_14 : decode cX7_left 14 = .ok (.getfield 28, 3) := by decide +kernel
theorem dX7_left_17 : decode cX7_left 17 = .ok (.bipush 32, 2) := by decide +kernel
theorem dX7_left_19 : decode cX7_left 19 = .ok (.iload_n 2, 1) := by decide +kernel
theorem dX7_left_20 : decode cX7_left 20 = .ok (.iadd, 1) := by decide +kernel
theorem dX7_left_21 : decode cX7_left 21 = .ok (.iaload, 1) := by decide +kernel
theorem dX7_left_22 : decode cX7_left 22 = .ok (.iadd, 1) := by decide +kernel
theorem dX7_left_23 : decode cX7_left 23 = .ok (.istore_n 1, 1) := by decide +kernel
theorem dX7_left_24 : decode cX7_left 24 = .ok (.iinc 2 1, 3) := by decide +kernel
theorem dX7_left_27 : decode cX7_left 27 = .ok (.goto (-23), 3) := by decide +kernel
theorem dX7_left_30 : decode cX7_left 30 = .ok (.iload_n 1, 1) := by decide +kernel
theorem dX7_left_31 : decode cX7_left 31 = .ok (.ireturn, 1) := by decide +kernel
theorem dX7_about_0 : decode cX7_about 0 = .ok (.iload_n 1, 1) := by decide +kernel
theorem dX7_about_1 : decode cX7_about 1 = .ok (.tableswitch 143 0 11 #[63, 68, 73, 81, 86, 94, 104, 114, 123, 128, 133, 138], 63) := by decide +kernel
theorem dX7_about_64 : decode cX7_about 64 = .ok (.aload_n 0, 1) := by decide +kernel
theorem dX7_about_65 : decode cX7_about 65 = .ok (.getfield 90, 3) := by decide +kernel
theorem dX7_about_68 : decode cX7_about 68 = .ok (.ireturn, 1) := by decide +kernel
theorem dX7_about_69 : decode cX7_about 69 = .ok (.aload_n 0, 1) := by decide +kernel
theorem dX7_about_70 : decode cX7_about 70 = .ok (.getfield 97, 3) := by decide +kernel
theorem dX7_about_73 : decode cX7_about 73 = .ok (.ireturn, 1) := by decide +kernel
theorem dX7_about_74 : decode cX7_about 74 = .ok (.aload_n 0, 1) := by decide +kernel
theorem dX7_about_75 : decode cX7_about 75 = .ok (.getfield 28, 3) := by decide +kernel
theorem dX7_about_78 : decode cX7_about 78 = .ok (.bipush 38, 2) := by decide +kernel
theorem dX7_about_80 : decode cX7_about 80 = .ok (.iaload, 1) := by decide +kernel
theorem dX7_about_81 : decode cX7_about 81 = .ok (.ireturn, 1) := by decide +kernel
theorem dX7_about_82 : decode cX7_about 82 = .ok (.aload_n 0, 1) := by decide +kernel
theorem dX7_about_83 : decode cX7_about 83 = .ok (.getfield 77, 3) := by decide +kernel
theorem dX7_about_86 : decode cX7_about 86 = .ok (.ireturn, 1) := by decide +kernel
theorem dX7_about_87 : decode cX7_about 87 = .ok (.aload_n 0, 1) := by decide +kernel
theorem dX7_about_88 : decode cX7_about 88 = .ok (.getfield 28, 3) := by decide +kernel
theorem dX7_about_91 : decode cX7_about 91 = .ok (.bipush 39, 2) := by decide +kernel
theorem dX7_about_93 : decode cX7_about 93 = .ok (.iaload, 1) := by decide +kernel
theorem dX7_about_94 : decode cX7_about 94 = .ok (.ireturn, 1) := by decide +kernel
theorem dX7_about_95 : decode cX7_about 95 = .ok (.aload_n 0, 1) := by decide +kernel
theorem dX7_about_96 : decode cX7_about 96 = .ok (.aload_n 0, 1) := by decide +kernel
theorem dX7_about_97 : decode cX7_about 97 = .ok (.getfield 28, 3) := by decide +kernel
theorem dX7_about_100 : decode cX7_about 100 = .ok (.iconst 3, 1) := by decide +kernel
theorem dX7_about_101 : decode cX7_about 101 = .ok (.invokevirtual 189, 3) := by decide +kernel
theorem dX7_about_104 : decode cX7_about 104 = .ok (.ireturn, 1) := by decide +kernel
theorem dX7_about_105 : decode cX7_about 105 = .ok (.aload_n 0, 1) := by decide +kernel
theorem dX7_about_106 : decode cX7_about 106 = .ok (.aload_n 0, 1) := by decide +kernel
theorem dX7_about_107 : decode cX7_about 107 = .ok (.getfield 28, 3) := by decide +kernel
theorem dX7_about_110 : decode cX7_about 110 = .ok (.iconst 4, 1) := by decide +kernel
theorem dX7_about_111 : decode cX7_about 111 = .ok (.invokevirtual 189, 3) := by decide +kernel
theorem dX7_about_114 : decode cX7_about 114 = .ok (.ireturn, 1) := by decide +kernel
theorem dX7_about_115 : decode cX7_about 115 = .ok (.aload_n 0, 1) := by decide +kernel
theorem dX7_about_116 : decode cX7_about 116 = .ok (.aload_n 0, 1) := by decide +kernel
theorem dX7_about_117 : decode cX7_about 117 = .ok (.getfield 28, 3) := by decide +kernel
theorem dX7_about_120 : decode cX7_about 120 = .ok (.invokevirtual 192, 3) := by decide +kernel
theorem dX7_about_123 : decode cX7_about 123 = .ok (.ireturn, 1) := by decide +kernel
theorem dX7_about_124 : decode cX7_about 124 = .ok (.aload_n 0, 1) := by decide +kernel
theorem dX7_about_125 : decode cX7_about 125 = .ok (.invokevirtual 196, 3) := by decide +kernel
theorem dX7_about_128 : decode cX7_about 128 = .ok (.ireturn, 1) := by decide +kernel
theorem dX7_about_129 : decode cX7_about 129 = .ok (.aload_n 0, 1) := by decide +kernel
theorem dX7_about_130 : decode cX7_about 130 = .ok (.getfield 135, 3) := by decide +kernel
theorem dX7_about_133 : decode cX7_about 133 = .ok (.ireturn, 1) := by decide +kernel
theorem dX7_about_134 : decode cX7_about 134 = .ok (.aload_n 0, 1) := by decide +kernel
theorem dX7_about_135 : decode cX7_about 135 = .ok (.getfield 199, 3) := by decide +kernel
theorem dX7_about_138 : decode cX7_about 138 = .ok (.ireturn, 1) := by decide +kernel
theorem dX7_about_139 : decode cX7_about 139 = .ok (.aload_n 0, 1) := by decide +kernel
theorem dX7_about_140 : decode cX7_about 140 = .ok (.getfield 100, 3) := by decide +kernel
theorem dX7_about_143 : decode cX7_about 143 = .ok (.ireturn, 1) := by decide +kernel
theorem dX7_about_144 : decode cX7_about 144 = .ok (.bipush (-2), 2) := by decide +kernel
theorem dX7_about_146 : decode cX7_about 146 = .ok (.ireturn, 1) := by decide +kernel
theorem dX7_placeOf_0 : decode cX7_placeOf 0 = .ok (.aload_n 0, 1) := by decide +kernel
theorem dX7_placeOf_1 : decode cX7_placeOf 1 = .ok (.aload_n 1, 1) := by decide +kernel
theorem dX7_placeOf_2 : decode cX7_placeOf 2 = .ok (.invokevirtual 176, 3) := by decide +kernel
theorem dX7_placeOf_5 : decode cX7_placeOf 5 = .ok (.bipush (-9), 2) := by decide +kernel
theorem dX7_placeOf_7 : decode cX7_placeOf 7 = .ok (.istore_n 3, 1) := by decide +kernel
theorem dX7_placeOf_8 : decode cX7_placeOf 8 = .ok (.iconst 0, 1) := by decide +kernel
theorem dX7_placeOf_9 : decode cX7_placeOf 9 = .ok (.istore 4, 2) := by decide +kernel
theorem dX7_placeOf_11 : decode cX7_placeOf 11 = .ok (.iload 4, 2) := by decide +kernel
theorem dX7_placeOf_13 : decode cX7_placeOf 13 = .ok (.aload_n 0, 1) := by decide +kernel
theorem dX7_placeOf_14 : decode cX7_placeOf 14 = .ok (.getfield 153, 3) := by decide +kernel
theorem dX7_placeOf_17 : decode cX7_placeOf 17 = .ok (.if_icmp .ge 27, 3) := by decide +kernel
theorem dX7_placeOf_20 : decode cX7_placeOf 20 = .ok (.aload_n 0, 1) := by decide +kernel
theorem dX7_placeOf_21 : decode cX7_placeOf 21 = .ok (.getfield 53, 3) := by decide +kernel
theorem dX7_placeOf_24 : decode cX7_placeOf 24 = .ok (.iload 4, 2) := by decide +kernel
theorem dX7_placeOf_26 : decode cX7_placeOf 26 = .ok (.iaload, 1) := by decide +kernel
theorem dX7_placeOf_27 : decode cX7_placeOf 27 = .ok (.iload_n 2, 1) := by decide +kernel
theorem dX7_placeOf_28 : decode cX7_placeOf 28 = .ok (.if_icmp .ne 8, 3) := by decide +kernel
theorem dX7_placeOf_31 : decode cX7_placeOf 31 = .ok (.iload 4, 2) := by decide +kernel
theorem dX7_placeOf_33 : decode cX7_placeOf 33 = .ok (.goto 4, 3) := by decide +kernel
theorem dX7_placeOf_36 : decode cX7_placeOf 36 = .ok (.iload_n 3, 1) := by decide +kernel
theorem dX7_placeOf_37 : decode cX7_placeOf 37 = .ok (.istore_n 3, 1) := by decide +kernel
theorem dX7_placeOf_38 : decode cX7_placeOf 38 = .ok (.iinc 4 1, 3) := by decide +kernel
theorem dX7_placeOf_41 : decode cX7_placeOf 41 = .ok (.goto (-30), 3) := by decide +kernel
theorem dX7_placeOf_44 : decode cX7_placeOf 44 = .ok (.iload_n 3, 1) := by decide +kernel
theorem dX7_placeOf_45 : decode cX7_placeOf 45 = .ok (.ireturn, 1) := by decide +kernel
theorem dX7_tell_0 : decode cX7_tell 0 = .ok (.iload_n 3, 1) := by decide +kernel
theorem dX7_tell_1 : decode cX7_tell 1 = .ok (.tableswitch 123 0 9 #[55, 62, 68, 74, 81, 88, 95, 102, 109, 116], 55) := by decide +kernel
theorem dX7_tell_56 : decode cX7_tell 56 = .ok (.aload_n 0, 1) := by decide +kernel
theorem dX7_tell_57 : decode cX7_tell 57 = .ok (.getfield 13, 3) := by decide +kernel
theorem dX7_tell_60 : decode cX7_tell 60 = .ok (.iload_n 2, 1) := by decide +kernel
theorem dX7_tell_61 : decode cX7_tell 61 = .ok (.iaload, 1) := by decide +kernel
theorem dX7_tell_62 : decode cX7_tell 62 = .ok (.ireturn, 1) := by decide +kernel
theorem dX7_tell_63 : decode cX7_tell 63 = .ok (.aload_n 1, 1) := by decide +kernel
theorem dX7_tell_64 : decode cX7_tell 64 = .ok (.iconst 0, 1) := by decide +kernel
theorem dX7_tell_65 : decode cX7_tell 65 = .ok (.iload_n 2, 1) := by decide +kernel
theorem dX7_tell_66 : decode cX7_tell 66 = .ok (.iadd, 1) := by decide +kernel
theorem dX7_tell_67 : decode cX7_tell 67 = .ok (.iaload, 1) := by decide +kernel
theorem dX7_tell_68 : decode cX7_tell 68 = .ok (.ireturn, 1) := by decide +kernel
theorem dX7_tell_69 : decode cX7_tell 69 = .ok (.aload_n 1, 1) := by decide +kernel
theorem dX7_tell_70 : decode cX7_tell 70 = .ok (.iconst 4, 1) := by decide +kernel
theorem dX7_tell_71 : decode cX7_tell 71 = .ok (.iload_n 2, 1) := by decide +kernel
theorem dX7_tell_72 : decode cX7_tell 72 = .ok (.iadd, 1) := by decide +kernel
theorem dX7_tell_73 : decode cX7_tell 73 = .ok (.iaload, 1) := by decide +kernel
theorem dX7_tell_74 : decode cX7_tell 74 = .ok (.ireturn, 1) := by decide +kernel
theorem dX7_tell_75 : decode cX7_tell 75 = .ok (.aload_n 1, 1) := by decide +kernel
theorem dX7_tell_76 : decode cX7_tell 76 = .ok (.bipush 8, 2) := by decide +kernel
theorem dX7_tell_78 : decode cX7_tell 78 = .ok (.iload_n 2, 1) := by decide +kernel
theorem dX7_tell_79 : decode cX7_tell 79 = .ok (.iadd, 1) := by decide +kernel
theorem dX7_tell_80 : decode cX7_tell 80 = .ok (.iaload, 1) := by decide +kernel
theorem dX7_tell_81 : decode cX7_tell 81 = .ok (.ireturn, 1) := by decide +kernel
theorem dX7_tell_82 : decode cX7_tell 82 = .ok (.aload_n 1, 1) := by decide +kernel
theorem dX7_tell_83 : decode cX7_tell 83 = .ok (.bipush 12, 2) := by decide +kernel
theorem dX7_tell_85 : decode cX7_tell 85 = .ok (.iload_n 2, 1) := by decide +kernel
theorem dX7_tell_86 : decode cX7_tell 86 = .ok (.iadd, 1) := by decide +kernel
theorem dX7_tell_87 : decode cX7_tell 87 = .ok (.iaload, 1) := by decide +kernel
theorem dX7_tell_88 : decode cX7_tell 88 = .ok (.ireturn, 1) := by decide +kernel
theorem dX7_tell_89 : decode cX7_tell 89 = .ok (.aload_n 1, 1) := by decide +kernel
theorem dX7_tell_90 : decode cX7_tell 90 = .ok (.bipush 16, 2) := by decide +kernel
theorem dX7_tell_92 : decode cX7_tell 92 = .ok (.iload_n 2, 1) := by decide +kernel
theorem dX7_tell_93 : decode cX7_tell 93 = .ok (.iadd, 1) := by decide +kernel
theorem dX7_tell_94 : decode cX7_tell 94 = .ok (.iaload, 1) := by decide +kernel
theorem dX7_tell_95 : decode cX7_tell 95 = .ok (.ireturn, 1) := by decide +kernel
theorem dX7_tell_96 : decode cX7_tell 96 = .ok (.aload_n 1, 1) := by decide +kernel
theorem dX7_tell_97 : decode cX7_tell 97 = .ok (.bipush 20, 2) := by decide +kernel
theorem dX7_tell_99 : decode cX7_tell 99 = .ok (.iload_n 2, 1) := by decide +kernel
theorem dX7_tell_100 : decode cX7_tell 100 = .ok (.iadd, 1) := by decide +kernel
theorem dX7_tell_101 : decode cX7_tell 101 = .ok (.iaload, 1) := by decide +kernel
theorem dX7_tell_102 : decode cX7_tell 102 = .ok (.ireturn, 1) := by decide +kernel
theorem dX7_tell_103 : decode cX7_tell 103 = .ok (.aload_n 1, 1) := by decide +kernel
theorem dX7_tell_104 : decode cX7_tell 104 = .ok (.bipush 24, 2) := by decide +kernel
theorem dX7_tell_106 : decode cX7_tell 106 = .ok (.iload_n 2, 1) := by decide +kernel
theorem dX7_tell_107 : decode cX7_tell 107 = .ok (.iadd, 1) := by decide +kernel
theorem dX7_tell_108 : decode cX7_tell 108 = .ok (.iaload, 1) := by decide +kernel
theorem dX7_tell_109 : decode cX7_tell 109 = .ok (.ireturn, 1) := by decide +kernel
theorem dX7_tell_110 : decode cX7_tell 110 = .ok (.aload_n 1, 1) := by decide +kernel
theorem dX7_tell_111 : decode cX7_tell 111 = .ok (.bipush 28, 2) := by decide +kernel
theorem dX7_tell_113 : decode cX7_tell 113 = .ok (.iload_n 2, 1) := by decide +kernel
theorem dX7_tell_114 : decode cX7_tell 114 = .ok (.iadd, 1) := by decide +kernel
theorem dX7_tell_115 : decode cX7_tell 115 = .ok (.iaload, 1) := by decide +kernel
theorem dX7_tell_116 : decode cX7_tell 116 = .ok (.ireturn, 1) := by decide +kernel
theorem dX7_tell_117 : decode cX7_tell 117 = .ok (.aload_n 0, 1) := by decide +kernel
theorem dX7_tell_118 : decode cX7_tell 118 = .ok (.aload_n 1, 1) := by decide +kernel
theorem dX7_tell_119 : decode cX7_tell 119 = .ok (.iload_n 2, 1) := by decide +kernel
theorem dX7_tell_120 : decode cX7_tell 120 = .ok (.invokevirtual 202, 3) := by decide +kernel
theorem dX7_tell_123 : decode cX7_tell 123 = .ok (.ireturn, 1) := by decide +kernel
theorem dX7_tell_124 : decode cX7_tell 124 = .ok (.bipush (-2), 2) := by decide +kernel
theorem dX7_tell_126 : decode cX7_tell 126 = .ok (.ireturn, 1) := by decide +kernel
theorem dX7_post_0 : decode cX7_post 0 = .ok (.aload_n 0, 1) := by decide +kernel
theorem dX7_post_1 : decode cX7_post 1 = .ok (.iload_n 1, 1) := by decide +kernel
theorem dX7_post_2 : decode cX7_post 2 = .ok (.invokevirtual 205, 3) := by decide +kernel
theorem dX7_post_5 : decode cX7_post 5 = .ok (.ifCond .eq 16, 3) := by decide +kernel
theorem dX7_post_8 : decode cX7_post 8 = .ok (.aload_n 0, 1) := by decide +kernel
theorem dX7_post_9 : decode cX7_post 9 = .ok (.aload_n 0, 1) := by decide +kernel
theorem dX7_post_10 : decode cX7_post 10 = .ok (.getfield 28, 3) := by decide +kernel
theorem dX7_post_13 : decode cX7_post 13 = .ok (.iload_n 1, 1) := by decide +kernel
theorem dX7_post_14 : decode cX7_post 14 = .ok (.iload_n 2, 1) := by decide +kernel
theorem dX7_post_15 : decode cX7_post 15 = .ok (.invokevirtual 208, 3) := by decide +kernel
theorem dX7_post_18 : decode cX7_post 18 = .ok (.goto 4, 3) := by decide +kernel
theorem dX7_post_21 : decode cX7_post 21 = .ok (.iconst (-1), 1) := by decide +kernel
theorem dX7_post_22 : decode cX7_post 22 = .ok (.ireturn, 1) := by decide +kernel
theorem dX7_postOf_0 : decode cX7_postOf 0 = .ok (.bipush (-9), 2) := by decide +kernel
theorem dX7_postOf_2 : decode cX7_postOf 2 = .ok (.istore_n 2, 1) := by decide +kernel
theorem dX7_postOf_3 : decode cX7_postOf 3 = .ok (.iconst 0, 1) := by decide +kernel
theorem dX7_postOf_4 : decode cX7_postOf 4 = .ok (.istore_n 3, 1) := by decide +kernel
theorem dX7_postOf_5 : decode cX7_postOf 5 = .ok (.iload_n 3, 1) := by decide +kernel
theorem dX7_postOf_6 : decode cX7_postOf 6 = .ok (.iconst 4, 1) := by decide +kernel
theorem dX7_postOf_7 : decode cX7_postOf 7 = .ok (.if_icmp .ge 24, 3) := by decide +kernel
theorem dX7_postOf_10 : decode cX7_postOf 10 = .ok (.aload_n 0, 1) := by decide +kernel
theorem dX7_postOf_11 : decode cX7_postOf 11 = .ok (.iconst 0, 1) := by decide +kernel
theorem dX7_postOf_12 : decode cX7_postOf 12 = .ok (.iload_n 3, 1) := by decide +kernel
theorem dX7_postOf_13 : decode cX7_postOf 13 = .ok (.iadd, 1) := by decide +kernel
theorem dX7_postOf_14 : decode cX7_postOf 14 = .ok (.iaload, 1) := by decide +kernel
theorem dX7_postOf_15 : decode cX7_postOf 15 = .ok (.iload_n 1, 1) := by decide +kernel
theorem dX7_postOf_16 : decode cX7_postOf 16 = .ok (.if_icmp .ne 7, 3) := by decide +kernel
theorem dX7_postOf_19 : decode cX7_postOf 19 = .ok (.iload_n 3, 1) := by decide +kernel
theorem dX7_postOf_20 : decode cX7_postOf 20 = .ok (.goto 4, 3) := by decide +kernel
theorem dX7_postOf_23 : decode cX7_postOf 23 = .ok (.iload_n 2, 1) := by decide +kernel
theorem dX7_postOf_24 : decode cX7_postOf 24 = .ok (.istore_n 2, 1) := by decide +kernel
theorem dX7_postOf_25 : decode cX7_postOf 25 = .ok (.iinc 3 1, 3) := by decide +kernel
theorem dX7_postOf_28 : decode cX7_postOf 28 = .ok (.goto (-23), 3) := by decide +kernel
theorem dX7_postOf_31 : decode cX7_postOf 31 = .ok (.iload_n 2, 1) := by decide +kernel
theorem dX7_postOf_32 : decode cX7_postOf 32 = .ok (.ireturn, 1) := by decide +kernel
theorem dX7_car_0 : decode cX7_car 0 = .ok (.aload_n 0, 1) := by decide +kernel
theorem dX7_car_1 : decode cX7_car 1 = .ok (.iload_n 1, 1) := by decide +kernel
theorem dX7_car_2 : decode cX7_car 2 = .ok (.invokevirtual 212, 3) := by decide +kernel
theorem dX7_car_5 : decode cX7_car 5 = .ok (.ifCond .ne 5, 3) := by decide +kernel
theorem dX7_car_8 : decode cX7_car 8 = .ok (.iconst (-1), 1) := by decide +kernel
theorem dX7_car_9 : decode cX7_car 9 = .ok (.ireturn, 1) := by decide +kernel
theorem dX7_car_10 : decode cX7_car 10 = .ok (.iload_n 2, 1) := by decide +kernel
theorem dX7_car_11 : decode cX7_car 11 = .ok (.tableswitch 84 0 5 #[37, 44, 51, 58, 65, 75], 37) := by decide +kernel
theorem dX7_car_48 : decode cX7_car 48 = .ok (.aload_n 0, 1) := by decide +kernel
theorem dX7_car_49 : decode cX7_car 49 = .ok (.getfield 16, 3) := by decide +kernel
theorem dX7_car_52 : decode cX7_car 52 = .ok (.iload_n 1, 1) := by decide +kernel
theorem dX7_car_53 : decode cX7_car 53 = .ok (.iaload, 1) := by decide +kernel
theorem dX7_car_54 : decode cX7_car 54 = .ok (.ireturn, 1) := by decide +kernel
theorem dX7_car_55 : decode cX7_car 55 = .ok (.aload_n 0, 1) := by decide +kernel
theorem dX7_car_56 : decode cX7_car 56 = .ok (.getfield 19, 3) := by decide +kernel
theorem dX7_car_59 : decode cX7_car 59 = .ok (.iload_n 1, 1) := by decide +kernel
theorem dX7_car_60 : decode cX7_car 60 = .ok (.iaload, 1) := by decide +kernel
theorem dX7_car_61 : decode cX7_car 61 = .ok (.ireturn, 1) := by decide +kernel
theorem dX7_car_62 : decode cX7_car 62 = .ok (.aload_n 0, 1) := by decide +kernel
theorem dX7_car_63 : decode cX7_car 63 = .ok (.getfield 22, 3) := by decide +kernel
theorem dX7_car_66 : decode cX7_car 66 = .ok (.iload_n 1, 1) := by decide +kernel
theorem dX7_car_67 : decode cX7_car 67 = .ok (.iaload, 1) := by decide +kernel
theorem dX7_car_68 : decode cX7_car 68 = .ok (.ireturn, 1) := by decide +kernel
theorem dX7_car_69 : decode cX7_car 69 = .ok (.aload_n 0, 1) := by decide +kernel
theorem dX7_car_70 : decode cX7_car 70 = .ok (.getfield 25, 3) := by decide +kernel
theorem dX7_car_73 : decode cX7_car 73 = .ok (.iload_n 1, 1) := by decide +kernel
theorem dX7_car_74 : decode cX7_car 74 = .ok (.iaload, 1) := by decide +kernel
theorem dX7_car_75 : decode cX7_car 75 = .ok (.ireturn, 1) := by decide +kernel
theorem dX7_car_76 : decode cX7_car 76 = .ok (.aload_n 0, 1) := by decide +kernel
theorem dX7_car_77 : decode cX7_car 77 = .ok (.getfield 28, 3) := by decide +kernel
theorem dX7_car_80 : decode cX7_car 80 = .ok (.bipush 32, 2) := by decide +kernel
theorem dX7_car_82 : decode cX7_car 82 = .ok (.iload_n 1, 1) := by decide +kernel
theorem dX7_car_83 : decode cX7_car 83 = .ok (.iadd, 1) := by decide +kernel
theorem dX7_car_84 : decode cX7_car 84 = .ok (.iaload, 1) := by decide +kernel
theorem dX7_car_85 : decode cX7_car 85 = .ok (.ireturn, 1) := by decide +kernel
theorem dX7_car_86 : decode cX7_car 86 = .ok (.aload_n 0, 1) := by decide +kernel
theorem dX7_car_87 : decode cX7_car 87 = .ok (.getfield 28, 3) := by decide +kernel
theorem dX7_car_90 : decode cX7_car 90 = .ok (.iload_n 1, 1) := by decide +kernel
theorem dX7_car_91 : decode cX7_car 91 = .ok (.invokestatic 215, 3) := by decide +kernel
theorem dX7_car_94 : decode cX7_car 94 = .ok (.ireturn, 1) := by decide +kernel
theorem dX7_car_95 : decode cX7_car 95 = .ok (.bipush (-2), 2) := by decide +kernel
theorem dX7_car_97 : decode cX7_car 97 = .ok (.ireturn, 1) := by decide +kernel
theorem dX7_note_0 : decode cX7_note 0 = .ok (.iconst 0, 1) := by decide +kernel
theorem dX7_note_1 : decode cX7_note 1 = .ok (.istore_n 1, 1) := by decide +kernel
theorem dX7_note_2 : decode cX7_note 2 = .ok (.iload_n 1, 1) := by decide +kernel
theorem dX7_note_3 : decode cX7_note 3 = .ok (.bipush 40, 2) := by decide +kernel
theorem dX7_note_5 : decode cX7_note 5 = .ok (.if_icmp .ge 29, 3) := by decide +kernel
theorem dX7_note_8 : decode cX7_note 8 = .ok (.aload_n 0, 1) := by decide +kernel
theorem dX7_note_9 : decode cX7_note 9 = .ok (.getfield 34, 3) := by decide +kernel
theorem dX7_note_12 : decode cX7_note 12 = .ok (.bipush 40, 2) := by decide +kernel
theorem dX7_note_14 : decode cX7_note 14 = .ok (.aload_n 0, 1) := by decide +kernel
theorem dX7_note_15 : decode cX7_note 15 = .ok (.getfield 218, 3) := by decide +kernel
theorem dX7_note_18 : decode cX7_note 18 = .ok (.imul, 1) := by decide +kernel
theorem dX7_note_19 : decode cX7_note 19 = .ok (.iload_n 1, 1) := by decide +kernel
theorem dX7_note_20 : decode cX7_note 20 = .ok (.iadd, 1) := by decide +kernel
theorem dX7_note_21 : decode cX7_note 21 = .ok (.aload_n 0, 1) := by decide +kernel
theorem dX7_note_22 : decode cX7_note 22 = .ok (.getfield 28, 3) := by decide +kernel
theorem dX7_note_25 : decode cX7_note 25 = .ok (.iload_n 1, 1) := by decide +kernel
theorem dX7_note_26 : decode cX7_note 26 = .ok (.iaload, 1) := by decide +kernel
theorem dX7_note_27 : decode cX7_note 27 = .ok (.iastore, 1) := by decide +kernel
theorem dX7_note_28 : decode cX7_note 28 = .ok (.iinc 1 1, 3) := by decide +kernel
theorem dX7_note_31 : decode cX7_note 31 = .ok (.goto (-29), 3) := by decide +kernel
theorem dX7_note_34 : decode cX7_note 34 = .ok (.aload_n 0, 1) := by decide +kernel
theorem dX7_note_35 : decode cX7_note 35 = .ok (.aload_n 0, 1) := by decide +kernel
theorem dX7_note_36 : decode cX7_note 36 = .ok (.getfield 218, 3) := by decide +kernel
theorem dX7_note_39 : decode cX7_note 39 = .ok (.iconst 1, 1) := by decide +kernel
theorem dX7_note_40 : decode cX7_note 40 = .ok (.iadd, 1) := by decide +kernel
theorem dX7_note_41 : decode cX7_note 41 = .ok (.bipush 14, 2) := by decide +kernel
theorem dX7_note_43 : decode cX7_note 43 = .ok (.irem, 1) := by decide +kernel
theorem dX7_note_44 : decode cX7_note 44 = .ok (.putfield 218, 3) := by decide +kernel
theorem dX7_note_47 : decode cX7_note 47 = .ok (.aload_n 0, 1) := by decide +kernel
theorem dX7_note_48 : decode cX7_note 48 = .ok (.aload_n 0, 1) := by decide +kernel
theorem dX7_note_49 : decode cX7_note 49 = .ok (.getfield 135, 3) := by decide +kernel
theorem dX7_note_52 : decode cX7_note 52 = .ok (.bipush 14, 2) := by decide +kernel
theorem dX7_note_54 : decode cX7_note 54 = .ok (.if_icmp .ge 12, 3) := by decide +kernel
theorem dX7_note_57 : decode cX7_note 57 = .ok (.aload_n 0, 1) := by decide +kernel
theorem dX7_note_58 : decode cX7_note 58 = .ok (.getfield 135, 3) := by decide +kernel
theorem dX7_note_61 : decode cX7_note 61 = .ok (.iconst 1, 1) := by decide +kernel
theorem dX7_note_62 : decode cX7_note 62 = .ok (.iadd, 1) := by decide +kernel
theorem dX7_note_63 : decode cX7_note 63 = .ok (.goto 5, 3) := by decide +kernel
theorem dX7_note_66 : decode cX7_note 66 = .ok (.bipush 14, 2) := by decide +kernel
theorem dX7_note_68 : decode cX7_note 68 = .ok (.putfield 135, 3) := by decide +kernel
theorem dX7_note_71 : decode cX7_note 71 = .ok (.return_, 1) := by decide +kernel
theorem dX7_minute_0 : decode cX7_minute 0 = .ok (.iload_n 1, 1) := by decide +kernel
theorem dX7_minute_1 : decode cX7_minute 1 = .ok (.iconst 1, 1) := by decide +kernel
theorem dX7_minute_2 : decode cX7_minute 2 = .ok (.bipush 99, 2) := by decide +kernel
theorem dX7_minute_4 : decode cX7_minute 4 = .ok (.invokestatic 93, 3) := by decide +kernel
theorem dX7_minute_7 : decode cX7_minute 7 = .ok (.ifCond .ne 6, 3) := by decide +kernel
theorem dX7_minute_10 : decode cX7_minute 10 = .ok (.bipush (-2), 2) := by decide +kernel
theorem dX7_minute_12 : decode cX7_minute 12 = .ok (.ireturn, 1) := by decide +kernel
theorem dX7_minute_13 : decode cX7_minute 13 = .ok (.aload_n 0, 1) := by decide +kernel
theorem dX7_minute_14 : decode cX7_minute 14 = .ok (.invokevirtual 221, 3) := by decide +kernel
theorem dX7_minute_17 : decode cX7_minute 17 = .ok (.iconst 0, 1) := by decide +kernel
theorem dX7_minute_18 : decode cX7_minute 18 = .ok (.istore_n 2, 1) := by decide +kernel
theorem dX7_minute_19 : decode cX7_minute 19 = .ok (.iload_n 2, 1) := by decide +kernel
theorem dX7_minute_20 : decode cX7_minute 20 = .ok (.iload_n 1, 1) := by decide +kernel
theorem dX7_minute_21 : decode cX7_minute 21 = .ok (.if_icmp .ge 18, 3) := by decide +kernel
theorem dX7_minute_24 : decode cX7_minute 24 = .ok (.aload_n 0, 1) := by decide +kernel
theorem dX7_minute_25 : decode cX7_minute 25 = .ok (.aload_n 0, 1) := by decide +kernel
theorem dX7_minute_26 : decode cX7_minute 26 = .ok (.getfield 28, 3) := by decide +kernel
theorem dX7_minute_29 : decode cX7_minute 29 = .ok (.iconst 0, 1) := by decide +kernel
theorem dX7_minute_30 : decode cX7_minute 30 = .ok (.invokevirtual 186, 3) := by decide +kernel
theorem dX7_minute_33 : decode cX7_minute 33 = .ok (.iinc 2 1, 3) := by decide +kernel
theorem dX7_minute_36 : decode cX7_minute 36 = .ok (.goto (-17), 3) := by decide +kernel
theorem dX7_minute_39 : decode cX7_minute 39 = .ok (.aload_n 0, 1) := by decide +kernel
theorem dX7_minute_40 : decode cX7_minute 40 = .ok (.aload_n 0, 1) := by decide +kernel
theorem dX7_minute_41 : decode cX7_minute 41 = .ok (.getfield 28, 3) := by decide +kernel
theorem dX7_minute_44 : decode cX7_minute 44 = .ok (.invokevirtual 192, 3) := by decide +kernel
theorem dX7_minute_47 : decode cX7_minute 47 = .ok (.ireturn, 1) := by decide +kernel
theorem dX7_mayPlug_0 : decode cX7_mayPlug 0 = .ok (.aload_n 1, 1) := by decide +kernel
theorem dX7_mayPlug_1 : decode cX7_mayPlug 1 = .ok (.iconst 4, 1) := by decide +kernel
theorem dX7_mayPlug_2 : decode cX7_mayPlug 2 = .ok (.iload_n 2, 1) := by decide +kernel
theorem dX7_mayPlug_3 : decode cX7_mayPlug 3 = .ok (.iadd, 1) := by decide +kernel
theorem dX7_mayPlug_4 : decode cX7_mayPlug 4 = .ok (.iaload, 1) := by decide +kernel
theorem dX7_mayPlug_5 : decode cX7_mayPlug 5 = .ok (.ifCond .ne 17, 3) := by decide +kernel
theorem dX7_mayPlug_8 : decode cX7_mayPlug 8 = .ok (.aload_n 1, 1) := by decide +kernel
theorem dX7_mayPlug_9 : decode cX7_mayPlug 9 = .ok (.iload_n 3, 1) := by decide +kernel
theorem dX7_mayPlug_10 : decode cX7_mayPlug 10 = .ok (.invokestatic 215, 3) := by decide +kernel
theorem dX7_mayPlug_13 : decode cX7_mayPlug 13 = .ok (.bipush (-9), 2) := by decide +kernel
theorem dX7_mayPlug_15 : decode cX7_mayPlug 15 = .ok (.if_icmp .ne 7, 3) := by decide +kernel
theorem dX7_mayPlug_18 : decode cX7_mayPlug 18 = .ok (.iconst 1, 1) := by decide +kernel
theorem dX7_mayPlug_19 : decode cX7_mayPlug 19 = .ok (.goto 4, 3) := by decide +kernel
theorem dX7_mayPlug_22 : decode cX7_mayPlug 22 = .ok (.iconst 0, 1) := by decide +kernel
theorem dX7_mayPlug_23 : decode cX7_mayPlug 23 = .ok (.ireturn, 1) := by decide +kernel
theorem dX7_plugOn_0 : decode cX7_plugOn 0 = .ok (.aload_n 0, 1) := by decide +kernel
theorem dX7_plugOn_1 : decode cX7_plugOn 1 = .ok (.aload_n 1, 1) := by decide +kernel
theorem dX7_plugOn_2 : decode cX7_plugOn 2 = .ok (.iload_n 2, 1) := by decide +kernel
theorem dX7_plugOn_3 : decode cX7_plugOn 3 = .ok (.iconst 1, 1) := by decide +kernel
theorem dX7_plugOn_4 : decode cX7_plugOn 4 = .ok (.invokevirtual 224, 3) := by decide +kernel
theorem dX7_plugOn_7 : decode cX7_plugOn 7 = .ok (.aload_n 1, 1) := by decide +kernel
theorem dX7_plugOn_8 : decode cX7_plugOn 8 = .ok (.iconst 0, 1) := by decide +kernel
theorem dX7_plugOn_9 : decode cX7_plugOn 9 = .ok (.iload_n 2, 1) := by decide +kernel
theorem dX7_plugOn_10 : decode cX7_plugOn 10 = .ok (.iadd, 1) := by decide +kernel
theorem dX7_plugOn_11 : decode cX7_plugOn 11 = .ok (.iload_n 3, 1) := by decide +kernel
theorem dX7_plugOn_12 : decode cX7_plugOn 12 = .ok (.iastore, 1) := by decide +kernel
theorem dX7_plugOn_13 : decode cX7_plugOn 13 = .ok (.return_, 1) := by decide +kernel
theorem dX7_plug_0 : decode cX7_plug 0 = .ok (.aload_n 0, 1) := by decide +kernel
theorem dX7_plug_1 : decode cX7_plug 1 = .ok (.iload_n 1, 1) := by decide +kernel
theorem dX7_plug_2 : decode cX7_plug 2 = .ok (.invokevirtual 205, 3) := by decide +kernel
theorem dX7_plug_5 : decode cX7_plug 5 = .ok (.ifCond .eq 11, 3) := by decide +kernel
theorem dX7_plug_8 : decode cX7_plug 8 = .ok (.aload_n 0, 1) := by decide +kernel
theorem dX7_plug_9 : decode cX7_plug 9 = .ok (.iload_n 2, 1) := by decide +kernel
theorem dX7_plug_10 : decode cX7_plug 10 = .ok (.invokevirtual 212, 3) := by decide +kernel
theorem dX7_plug_13 : decode cX7_plug 13 = .ok (.ifCond .ne 5, 3) := by decide +kernel
theorem dX7_plug_16 : decode cX7_plug 16 = .ok (.iconst (-1), 1) := by decide +kernel
theorem dX7_plug_17 : decode cX7_plug 17 = .ok (.ireturn, 1) := by decide +kernel
theorem dX7_plug_18 : decode cX7_plug 18 = .ok (.aload_n 0, 1) := by decide +kernel
theorem dX7_plug_19 : decode cX7_plug 19 = .ok (.aload_n 0, 1) := by decide +kernel
theorem dX7_plug_20 : decode cX7_plug 20 = .ok (.getfield 28, 3) := by decide +kernel
theorem dX7_plug_23 : decode cX7_plug 23 = .ok (.iload_n 1, 1) := by decide +kernel
theorem dX7_plug_24 : decode cX7_plug 24 = .ok (.iload_n 2, 1) := by decide +kernel
theorem dX7_plug_25 : decode cX7_plug 25 = .ok (.invokevirtual 227, 3) := by decide +kernel
theorem dX7_plug_28 : decode cX7_plug 28 = .ok (.ifCond .ne 6, 3) := by decide +kernel
theorem dX7_plug_31 : decode cX7_plug 31 = .ok (.bipush (-3), 2) := by decide +kernel
theorem dX7_plug_33 : decode cX7_plug 33 = .ok (.ireturn, 1) := by decide +kernel
theorem dX7_plug_34 : decode cX7_plug 34 = .ok (.aload_n 0, 1) := by decide +kernel
theorem dX7_plug_35 : decode cX7_plug 35 = .ok (.invokevirtual 221, 3) := by decide +kernel
theorem dX7_plug_38 : decode cX7_plug 38 = .ok (.aload_n 0, 1) := by decide +kernel
theorem dX7_plug_39 : decode cX7_plug 39 = .ok (.aload_n 0, 1) := by decide +kernel
theorem dX7_plug_40 : decode cX7_plug 40 = .ok (.getfield 28, 3) := by decide +kernel
theorem dX7_plug_43 : decode cX7_plug 43 = .ok (.iload_n 1, 1) := by decide +kernel
theorem dX7_plug_44 : decode cX7_plug 44 = .ok (.iload_n 2, 1) := by decide +kernel
theorem dX7_plug_45 : decode cX7_plug 45 = .ok (.invokevirtual 230, 3) := by decide +kernel
theorem dX7_plug_48 : decode cX7_plug 48 = .ok (.iconst 0, 1) := by decide +kernel
theorem dX7_plug_49 : decode cX7_plug 49 = .ok (.istore_n 3, 1) := by decide +kernel
theorem dX7_plug_50 : decode cX7_plug 50 = .ok (.iconst 0, 1) := by decide +kernel
theorem dX7_plug_51 : decode cX7_plug 51 = .ok (.istore 4, 2) := by decide +kernel
theorem dX7_plug_53 : decode cX7_plug 53 = .ok (.iload 4, 2) := by decide +kernel
theorem dX7_plug_55 : decode cX7_plug 55 = .ok (.aload_n 0, 1) := by decide +kernel
theorem dX7_plug_56 : decode cX7_plug 56 = .ok (.getfield 90, 3) := by decide +kernel
theorem dX7_plug_59 : decode cX7_plug 59 = .ok (.if_icmp .ge 31, 3) := by decide +kernel
theorem dX7_plug_62 : decode cX7_plug 62 = .ok (.iload_n 3, 1) := by decide +kernel
theorem dX7_plug_63 : decode cX7_plug 63 = .ok (.aload_n 0, 1) := by decide +kernel
theorem dX7_plug_64 : decode cX7_plug 64 = .ok (.getfield 28, 3) := by decide +kernel
theorem dX7_plug_67 : decode cX7_plug 67 = .ok (.iconst 0, 1) := by decide +kernel
theorem dX7_plug_68 : decode cX7_plug 68 = .ok (.iload 4, 2) := by decide +kernel
theorem dX7_plug_70 : decode cX7_plug 70 = .ok (.iadd, 1) := by decide +kernel
theorem dX7_plug_71 : decode cX7_plug 71 = .ok (.iaload, 1) := by decide +kernel
theorem dX7_plug_72 : decode cX7_plug 72 = .ok (.bipush (-9), 2) := by decide +kernel
theorem dX7_plug_74 : decode cX7_plug 74 = .ok (.if_icmp .eq 7, 3) := by decide +kernel
theorem dX7_plug_77 : decode cX7_plug 77 = .ok (.iconst 1, 1) := by decide +kernel
theorem dX7_plug_78 : decode cX7_plug 78 = .ok (.goto 4, 3) := by decide +kernel
theorem dX7_plug_81 : decode cX7_plug 81 = .ok (.iconst 0, 1) := by decide +kernel
theorem dX7_plug_82 : decode cX7_plug 82 = .ok (.iadd, 1) := by decide +kernel
theorem dX7_plug_83 : decode cX7_plug 83 = .ok (.istore_n 3, 1) := by decide +kernel
theorem dX7_plug_84 : decode cX7_plug 84 = .ok (.iinc 4 1, 3) := by decide +kernel
theorem dX7_plug_87 : decode cX7_plug 87 = .ok (.goto (-34), 3) := by decide +kernel
theorem dX7_plug_90 : decode cX7_plug 90 = .ok (.iload_n 3, 1) := by decide +kernel
theorem dX7_plug_91 : decode cX7_plug 91 = .ok (.ireturn, 1) := by decide +kernel
theorem dX7_pullOn_0 : decode cX7_pullOn 0 = .ok (.aload_n 0, 1) := by decide +kernel
theorem dX7_pullOn_1 : decode cX7_pullOn 1 = .ok (.aload_n 1, 1) := by decide +kernel
theorem dX7_pullOn_2 : decode cX7_pullOn 2 = .ok (.iload_n 2, 1) := by decide +kernel
theorem dX7_pullOn_3 : decode cX7_pullOn 3 = .ok (.iconst 0, 1) := by decide +kernel
theorem dX7_pullOn_4 : decode cX7_pullOn 4 = .ok (.invokevirtual 224, 3) := by decide +kernel
theorem dX7_pullOn_7 : decode cX7_pullOn 7 = .ok (.aload_n 1, 1) := by decide +kernel
theorem dX7_pullOn_8 : decode cX7_pullOn 8 = .ok (.iconst 0, 1) := by decide +kernel
theorem dX7_pullOn_9 : decode cX7_pullOn 9 = .ok (.iload_n 2, 1) := by decide +kernel
theorem dX7_pullOn_10 : decode cX7_pullOn 10 = .ok (.iadd, 1) := by decide +kernel
theorem dX7_pullOn_11 : decode cX7_pullOn 11 = .ok (.bipush (-9), 2) := by decide +kernel
theorem dX7_pullOn_13 : decode cX7_pullOn 13 = .ok (.iastore, 1) := by decide +kernel
theorem dX7_pullOn_14 : decode cX7_pullOn 14 = .ok (.return_, 1) := by decide +kernel
theorem dX7_pull_0 : decode cX7_pull 0 = .ok (.aload_n 0, 1) := by decide +kernel
theorem dX7_pull_1 : decode cX7_pull 1 = .ok (.iload_n 1, 1) := by decide +kernel
theorem dX7_pull_2 : decode cX7_pull 2 = .ok (.invokevirtual 205, 3) := by decide +kernel
theorem dX7_pull_5 : decode cX7_pull 5 = .ok (.ifCond .ne 5, 3) := by decide +kernel
theorem dX7_pull_8 : decode cX7_pull 8 = .ok (.iconst (-1), 1) := by decide +kernel
theorem dX7_pull_9 : decode cX7_pull 9 = .ok (.ireturn, 1) := by decide +kernel
theorem dX7_pull_10 : decode cX7_pull 10 = .ok (.aload_n 0, 1) := by decide +kernel
theorem dX7_pull_11 : decode cX7_pull 11 = .ok (.getfield 28, 3) := by decide +kernel
theorem dX7_pull_14 : decode cX7_pull 14 = .ok (.iconst 4, 1) := by decide +kernel
theorem dX7_pull_15 : decode cX7_pull 15 = .ok (.iload_n 1, 1) := by decide +kernel
theorem dX7_pull_16 : decode cX7_pull 16 = .ok (.iadd, 1) := by decide +kernel
theorem dX7_pull_17 : decode cX7_pull 17 = .ok (.iaload, 1) := by decide +kernel
theorem dX7_pull_18 : decode cX7_pull 18 = .ok (.ifCond .ne 6, 3) := by decide +kernel
theorem dX7_pull_21 : decode cX7_pull 21 = .ok (.bipush (-3), 2) := by decide +kernel
theorem dX7_pull_23 : decode cX7_pull 23 = .ok (.ireturn, 1) := by decide +kernel
theorem dX7_pull_24 : decode cX7_pull 24 = .ok (.aload_n 0, 1) := by decide +kernel
theorem dX7_pull_25 : decode cX7_pull 25 = .ok (.invokevirtual 221, 3) := by decide +kernel
theorem dX7_pull_28 : decode cX7_pull 28 = .ok (.aload_n 0, 1) := by decide +kernel
theorem dX7_pull_29 : decode cX7_pull 29 = .ok (.getfield 28, 3) := by decide +kernel
theorem dX7_pull_32 : decode cX7_pull 32 = .ok (.iconst 0, 1) := by decide +kernel
theorem dX7_pull_33 : decode cX7_pull 33 = .ok (.iload_n 1, 1) := by decide +kernel
theorem dX7_pull_34 : decode cX7_pull 34 = .ok (.iadd, 1) := by decide +kernel
theorem dX7_pull_35 : decode cX7_pull 35 = .ok (.iaload, 1) := by decide +kernel
theorem dX7_pull_36 : decode cX7_pull 36 = .ok (.istore_n 2, 1) := by decide +kernel
theorem dX7_pull_37 : decode cX7_pull 37 = .ok (.aload_n 0, 1) := by decide +kernel
theorem dX7_pull_38 : decode cX7_pull 38 = .ok (.aload_n 0, 1) := by decide +kernel
theorem dX7_pull_39 : decode cX7_pull 39 = .ok (.getfield 28, 3) := by decide +kernel
theorem dX7_pull_42 : decode cX7_pull 42 = .ok (.iload_n 1, 1) := by decide +kernel
theorem dX7_pull_43 : decode cX7_pull 43 = .ok (.invokevirtual 233, 3) := by decide +kernel
theorem dX7_pull_46 : decode cX7_pull 46 = .ok (.iload_n 2, 1) := by decide +kernel
theorem dX7_pull_47 : decode cX7_pull 47 = .ok (.ireturn, 1) := by decide +kernel
theorem dX7_maySay_0 : decode cX7_maySay 0 = .ok (.aload_n 1, 1) := by decide +kernel
theorem dX7_maySay_1 : decode cX7_maySay 1 = .ok (.iload_n 2, 1) := by decide +kernel
theorem dX7_maySay_2 : decode cX7_maySay 2 = .ok (.invokestatic 142, 3) := by decide +kernel
theorem dX7_maySay_5 : decode cX7_maySay 5 = .ok (.ifCond .eq 16, 3) := by decide +kernel
theorem dX7_maySay_8 : decode cX7_maySay 8 = .ok (.aload_n 0, 1) := by decide +kernel
theorem dX7_maySay_9 : decode cX7_maySay 9 = .ok (.aload_n 1, 1) := by decide +kernel
theorem dX7_maySay_10 : decode cX7_maySay 10 = .ok (.iload_n 2, 1) := by decide +kernel
theorem dX7_maySay_11 : decode cX7_maySay 11 = .ok (.invokevirtual 146, 3) := by decide +kernel
theorem dX7_maySay_14 : decode cX7_maySay 14 = .ok (.ifCond .ne 7, 3) := by decide +kernel
theorem dX7_maySay_17 : decode cX7_maySay 17 = .ok (.iconst 1, 1) := by decide +kernel
theorem dX7_maySay_18 : decode cX7_maySay 18 = .ok (.goto 4, 3) := by decide +kernel
theorem dX7_maySay_21 : decode cX7_maySay 21 = .ok (.iconst 0, 1) := by decide +kernel
theorem dX7_maySay_22 : decode cX7_maySay 22 = .ok (.ireturn, 1) := by decide +kernel
theorem dX7_sayOn_0 : decode cX7_sayOn 0 = .ok (.aload_n 1, 1) := by decide +kernel
theorem dX7_sayOn_1 : decode cX7_sayOn 1 = .ok (.bipush 12, 2) := by decide +kernel
theorem dX7_sayOn_3 : decode cX7_sayOn 3 = .ok (.iload_n 2, 1) := by decide +kernel
theorem dX7_sayOn_4 : decode cX7_sayOn 4 = .ok (.iadd, 1) := by decide +kernel
theorem dX7_sayOn_5 : decode cX7_sayOn 5 = .ok (.iconst 0, 1) := by decide +kernel
theorem dX7_sayOn_6 : decode cX7_sayOn 6 = .ok (.iastore, 1) := by decide +kernel
theorem dX7_sayOn_7 : decode cX7_sayOn 7 = .ok (.iload_n 3, 1) := by decide +kernel
theorem dX7_sayOn_8 : decode cX7_sayOn 8 = .ok (.iconst 4, 1) := by decide +kernel
theorem dX7_sayOn_9 : decode cX7_sayOn 9 = .ok (.if_icmp .ge 59, 3) := by decide +kernel
theorem dX7_sayOn_12 : decode cX7_sayOn 12 = .ok (.aload_n 1, 1) := by decide +kernel
theorem dX7_sayOn_13 : decode cX7_sayOn 13 = .ok (.iconst 4, 1) := by decide +kernel
theorem dX7_sayOn_14 : decode cX7_sayOn 14 = .ok (.iload_n 2, 1) := by decide +kernel
theorem dX7_sayOn_15 : decode cX7_sayOn 15 = .ok (.iadd, 1) := by decide +kernel
theorem dX7_sayOn_16 : decode cX7_sayOn 16 = .ok (.iaload, 1) := by decide +kernel
theorem dX7_sayOn_17 : decode cX7_sayOn 17 = .ok (.iconst 1, 1) := by decide +kernel
theorem dX7_sayOn_18 : decode cX7_sayOn 18 = .ok (.if_icmp .ne 13, 3) := by decide +kernel
theorem dX7_sayOn_21 : decode cX7_sayOn 21 = .ok (.aload_n 1, 1) := by decide +kernel
theorem dX7_sayOn_22 : decode cX7_sayOn 22 = .ok (.bipush 8, 2) := by decide +kernel
theorem dX7_sayOn_24 : decode cX7_sayOn 24 = .ok (.iload_n 2, 1) := by decide +kernel
theorem dX7_sayOn_25 : decode cX7_sayOn 25 = .ok (.iadd, 1) := by decide +kernel
theorem dX7_sayOn_26 : decode cX7_sayOn 26 = .ok (.iaload, 1) := by decide +kernel
theorem dX7_sayOn_27 : decode cX7_sayOn 27 = .ok (.iload_n 3, 1) := by decide +kernel
theorem dX7_sayOn_28 : decode cX7_sayOn 28 = .ok (.if_icmp .eq 10, 3) := by decide +kernel
theorem dX7_sayOn_31 : decode cX7_sayOn 31 = .ok (.aload_n 1, 1) := by decide +kernel
theorem dX7_sayOn_32 : decode cX7_sayOn 32 = .ok (.iconst 4, 1) := by decide +kernel
theorem dX7_sayOn_33 : decode cX7_sayOn 33 = .ok (.iload_n 2, 1) := by decide +kernel
theorem dX7_sayOn_34 : decode cX7_sayOn 34 = .ok (.iadd, 1) := by decide +kernel
theorem dX7_sayOn_35 : decode cX7_sayOn 35 = .ok (.iconst 4, 1) := by decide +kernel
theorem dX7_sayOn_36 : decode cX7_sayOn 36 = .ok (.iastore, 1) := by decide +kernel
theorem dX7_sayOn_37 : decode cX7_sayOn 37 = .ok (.return_, 1) := by decide +kernel
theorem dX7_sayOn_38 : decode cX7_sayOn 38 = .ok (.aload_n 1, 1) := by decide +kernel
theorem dX7_sayOn_39 : decode cX7_sayOn 39 = .ok (.bipush 8, 2) := by decide +kernel
theorem dX7_sayOn_41 : decode cX7_sayOn 41 = .ok (.iload_n 2, 1) := by decide +kernel
theorem dX7_sayOn_42 : decode cX7_sayOn 42 = .ok (.iadd, 1) := by decide +kernel
theorem dX7_sayOn_43 : decode cX7_sayOn 43 = .ok (.dup2, 1) := by decide +kernel
theorem dX7_sayOn_44 : decode cX7_sayOn 44 = .ok (.iaload, 1) := by decide +kernel
theorem dX7_sayOn_45 : decode cX7_sayOn 45 = .ok (.iconst 1, 1) := by decide +kernel
theorem dX7_sayOn_46 : decode cX7_sayOn 46 = .ok (.iadd, 1) := by decide +kernel
theorem dX7_sayOn_47 : decode cX7_sayOn 47 = .ok (.iastore, 1) := by decide +kernel
theorem dX7_sayOn_48 : decode cX7_sayOn 48 = .ok (.aload_n 1, 1) := by decide +kernel
theorem dX7_sayOn_49 : decode cX7_sayOn 49 = .ok (.iconst 4, 1) := by decide +kernel
theorem dX7_sayOn_50 : decode cX7_sayOn 50 = .ok (.iload_n 2, 1) := by decide +kernel
theorem dX7_sayOn_51 : decode cX7_sayOn 51 = .ok (.iadd, 1) := by decide +kernel
theorem dX7_sayOn_52 : decode cX7_sayOn 52 = .ok (.aload_n 1, 1) := by decide +kernel
theorem dX7_sayOn_53 : decode cX7_sayOn 53 = .ok (.bipush 8, 2) := by decide +kernel
theorem dX7_sayOn_55 : decode cX7_sayOn 55 = .ok (.iload_n 2, 1) := by decide +kernel
theorem dX7_sayOn_56 : decode cX7_sayOn 56 = .ok (.iadd, 1) := by decide +kernel
theorem dX7_sayOn_57 : decode cX7_sayOn 57 = .ok (.iaload, 1) := by decide +kernel
theorem dX7_sayOn_58 : decode cX7_sayOn 58 = .ok (.iconst 4, 1) := by decide +kernel
theorem dX7_sayOn_59 : decode cX7_sayOn 59 = .ok (.if_icmp .ne 7, 3) := by decide +kernel
theorem dX7_sayOn_62 : decode cX7_sayOn 62 = .ok (.iconst 2, 1) := by decide +kernel
theorem dX7_sayOn_63 : decode cX7_sayOn 63 = .ok (.goto 4, 3) := by decide +kernel
theorem dX7_sayOn_66 : decode cX7_sayOn 66 = .ok (.iconst 1, 1) := by decide +kernel
theorem dX7_sayOn_67 : decode cX7_sayOn 67 = .ok (.iastore, 1) := by decide +kernel
theorem dX7_sayOn_68 : decode cX7_sayOn 68 = .ok (.iload_n 3, 1) := by decide +kernel
theorem dX7_sayOn_69 : decode cX7_sayOn 69 = .ok (.iconst 5, 1) := by decide +kernel
theorem dX7_sayOn_70 : decode cX7_sayOn 70 = .ok (.if_icmp .ne 23, 3) := by decide +kernel
theorem dX7_sayOn_73 : decode cX7_sayOn 73 = .ok (.aload_n 1, 1) := by decide +kernel
theorem dX7_sayOn_74 : decode cX7_sayOn 74 = .ok (.iconst 4, 1) := by decide +kernel
theorem dX7_sayOn_75 : decode cX7_sayOn 75 = .ok (.iload_n 2, 1) := by decide +kernel
theorem dX7_sayOn_76 : decode cX7_sayOn 76 = .ok (.iadd, 1) := by decide +kernel
theorem dX7_sayOn_77 : decode cX7_sayOn 77 = .ok (.iconst 1, 1) := by decide +kernel
theorem dX7_sayOn_78 : decode cX7_sayOn 78 = .ok (.iastore, 1) := by decide +kernel
theorem dX7_sayOn_79 : decode cX7_sayOn 79 = .ok (.aload_n 1, 1) := by decide +kernel
theorem dX7_sayOn_80 : decode cX7_sayOn 80 = .ok (.bipush 8, 2) := by decide +kernel
theorem dX7_sayOn_82 : decode cX7_sayOn 82 = .ok (.iload_n 2, 1) := by decide +kernel
theorem dX7_sayOn_83 : decode cX7_sayOn 83 = .ok (.iadd, 1) := by decide +kernel
theorem dX7_sayOn_84 : decode cX7_sayOn 84 = .ok (.iconst 0, 1) := by decide +kernel
theorem dX7_sayOn_85 : decode cX7_sayOn 85 = .ok (.iastore, 1) := by decide +kernel
theorem dX7_sayOn_86 : decode cX7_sayOn 86 = .ok (.aload_n 1, 1) := by decide +kernel
theorem dX7_sayOn_87 : decode cX7_sayOn 87 = .ok (.bipush 16, 2) := by decide +kernel
theorem dX7_sayOn_89 : decode cX7_sayOn 89 = .ok (.iload_n 2, 1) := by decide +kernel
theorem dX7_sayOn_90 : decode cX7_sayOn 90 = .ok (.iadd, 1) := by decide +kernel
theorem dX7_sayOn_91 : decode cX7_sayOn 91 = .ok (.iconst 0, 1) := by decide +kernel
theorem dX7_sayOn_92 : decode cX7_sayOn 92 = .ok (.iastore, 1) := by decide +kernel
theorem dX7_sayOn_93 : decode cX7_sayOn 93 = .ok (.return_, 1) := by decide +kernel
theorem dX7_say_0 : decode cX7_say 0 = .ok (.aload_n 0, 1) := by decide +kernel
theorem dX7_say_1 : decode cX7_say 1 = .ok (.iload_n 1, 1) := by decide +kernel
theorem dX7_say_2 : decode cX7_say 2 = .ok (.invokevirtual 205, 3) := by decide +kernel
theorem dX7_say_5 : decode cX7_say 5 = .ok (.ifCond .ne 5, 3) := by decide +kernel
theorem dX7_say_8 : decode cX7_say 8 = .ok (.iconst (-1), 1) := by decide +kernel
theorem dX7_say_9 : decode cX7_say 9 = .ok (.ireturn, 1) := by decide +kernel
theorem dX7_say_10 : decode cX7_say 10 = .ok (.iload_n 2, 1) := by decide +kernel
theorem dX7_say_11 : decode cX7_say 11 = .ok (.iconst 0, 1) := by decide +kernel
theorem dX7_say_12 : decode cX7_say 12 = .ok (.iconst 5, 1) := by decide +kernel
theorem dX7_say_13 : decode cX7_say 13 = .ok (.invokestatic 93, 3) := by decide +kernel
theorem dX7_say_16 : decode cX7_say 16 = .ok (.ifCond .ne 6, 3) := by decide +kernel
theorem dX7_say_19 : decode cX7_say 19 = .ok (.bipush (-2), 2) := by decide +kernel
theorem dX7_say_21 : decode cX7_say 21 = .ok (.ireturn, 1) := by decide +kernel
theorem dX7_say_22 : decode cX7_say 22 = .ok (.aload_n 0, 1) := by decide +kernel
theorem dX7_say_23 : decode cX7_say 23 = .ok (.aload_n 0, 1) := by decide +kernel
theorem dX7_say_24 : decode cX7_say 24 = .ok (.getfield 28, 3) := by decide +kernel
theorem dX7_say_27 : decode cX7_say 27 = .ok (.iload_n 1, 1) := by decide +kernel
theorem dX7_say_28 : decode cX7_say 28 = .ok (.invokevirtual 236, 3) := by decide +kernel
theorem dX7_say_31 : decode cX7_say 31 = .ok (.ifCond .ne 6, 3) := by decide +kernel
theorem dX7_say_34 : decode cX7_say 34 = .ok (.bipush (-3), 2) := by decide +kernel
theorem dX7_say_36 : decode cX7_say 36 = .ok (.ireturn, 1) := by decide +kernel
theorem dX7_say_37 : decode cX7_say 37 = .ok (.aload_n 0, 1) := by decide +kernel
theorem dX7_say_38 : decode cX7_say 38 = .ok (.invokevirtual 221, 3) := by decide +kernel
theorem dX7_say_41 : decode cX7_say 41 = .ok (.aload_n 0, 1) := by decide +kernel
theorem dX7_say_42 : decode cX7_say 42 = .ok (.aload_n 0, 1) := by decide +kernel
theorem dX7_say_43 : decode cX7_say 43 = .ok (.getfield 28, 3) := by decide +kernel
theorem dX7_say_46 : decode cX7_say 46 = .ok (.iload_n 1, 1) := by decide +kernel
theorem dX7_say_47 : decode cX7_say 47 = .ok (.iload_n 2, 1) := by decide +kernel
theorem dX7_say_48 : decode cX7_say 48 = .ok (.invokevirtual 239, 3) := by decide +kernel
theorem dX7_say_51 : decode cX7_say 51 = .ok (.aload_n 0, 1) := by decide +kernel
theorem dX7_say_52 : decode cX7_say 52 = .ok (.getfield 28, 3) := by decide +kernel
theorem dX7_say_55 : decode cX7_say 55 = .ok (.iconst 4, 1) := by decide +kernel
theorem dX7_say_56 : decode cX7_say 56 = .ok (.iload_n 1, 1) := by decide +kernel
theorem dX7_say_57 : decode cX7_say 57 = .ok (.iadd, 1) := by decide +kernel
theorem dX7_say_58 : decode cX7_say 58 = .ok (.iaload, 1) := by decide +kernel
theorem dX7_say_59 : decode cX7_say 59 = .ok (.ireturn, 1) := by decide +kernel
theorem dX7_reset_0 : decode cX7_reset 0 = .ok (.aload_n 0, 1) := by decide +kernel
theorem dX7_reset_1 : decode cX7_reset 1 = .ok (.iload_n 1, 1) := by decide +kernel
theorem dX7_reset_2 : decode cX7_reset 2 = .ok (.invokevirtual 205, 3) := by decide +kernel
theorem dX7_reset_5 : decode cX7_reset 5 = .ok (.ifCond .ne 5, 3) := by decide +kernel
theorem dX7_reset_8 : decode cX7_reset 8 = .ok (.iconst (-1), 1) := by decide +kernel
theorem dX7_reset_9 : decode cX7_reset 9 = .ok (.ireturn, 1) := by decide +kernel
theorem dX7_reset_10 : decode cX7_reset 10 = .ok (.aload_n 0, 1) := by decide +kernel
theorem dX7_reset_11 : decode cX7_reset 11 = .ok (.getfield 28, 3) := by decide +kernel
theorem dX7_reset_14 : decode cX7_reset 14 = .ok (.iconst 4, 1) := by decide +kernel
theorem dX7_reset_15 : decode cX7_reset 15 = .ok (.iload_n 1, 1) := by decide +kernel
theorem dX7_reset_16 : decode cX7_reset 16 = .ok (.iadd, 1) := by decide +kernel
theorem dX7_reset_17 : decode cX7_reset 17 = .ok (.iaload, 1) := by decide +kernel
theorem dX7_reset_18 : decode cX7_reset 18 = .ok (.iconst 4, 1) := by decide +kernel
theorem dX7_reset_19 : decode cX7_reset 19 = .ok (.if_icmp .eq 6, 3) := by decide +kernel
theorem dX7_reset_22 : decode cX7_reset 22 = .ok (.bipush (-3), 2) := by decide +kernel
theorem dX7_reset_24 : decode cX7_reset 24 = .ok (.ireturn, 1) := by decide +kernel
theorem dX7_reset_25 : decode cX7_reset 25 = .ok (.aload_n 0, 1) := by decide +kernel
theorem dX7_reset_26 : decode cX7_reset 26 = .ok (.invokevirtual 221, 3) := by decide +kernel
theorem dX7_reset_29 : decode cX7_reset 29 = .ok (.aload_n 0, 1) := by decide +kernel
theorem dX7_reset_30 : decode cX7_reset 30 = .ok (.aload_n 0, 1) := by decide +kernel
theorem dX7_reset_31 : decode cX7_reset 31 = .ok (.getfield 28, 3) := by decide +kernel
theorem dX7_reset_34 : decode cX7_reset 34 = .ok (.iload_n 1, 1) := by decide +kernel
theorem dX7_reset_35 : decode cX7_reset 35 = .ok (.iconst 1, 1) := by decide +kernel
theorem dX7_reset_36 : decode cX7_reset 36 = .ok (.invokevirtual 224, 3) := by decide +kernel
theorem dX7_reset_39 : decode cX7_reset 39 = .ok (.aload_n 0, 1) := by decide +kernel
theorem dX7_reset_40 : decode cX7_reset 40 = .ok (.aload_n 0, 1) := by decide +kernel
theorem dX7_reset_41 : decode cX7_reset 41 = .ok (.getfield 28, 3) := by decide +kernel
theorem dX7_reset_44 : decode cX7_reset 44 = .ok (.iconst 4, 1) := by decide +kernel
theorem dX7_reset_45 : decode cX7_reset 45 = .ok (.invokevirtual 189, 3) := by decide +kernel
theorem dX7_reset_48 : decode cX7_reset 48 = .ok (.invokestatic 242, 3) := by decide +kernel
theorem dX7_reset_51 : decode cX7_reset 51 = .ok (.ireturn, 1) := by decide +kernel
theorem dX7_limit_0 : decode cX7_limit 0 = .ok (.iload_n 1, 1) := by decide +kernel
theorem dX7_limit_1 : decode cX7_limit 1 = .ok (.iconst 0, 1) := by decide +kernel
theorem dX7_limit_2 : decode cX7_limit 2 = .ok (.bipush 99, 2) := by decide +kernel
theorem dX7_limit_4 : decode cX7_limit 4 = .ok (.invokestatic 93, 3) := by decide +kernel
theorem dX7_limit_7 : decode cX7_limit 7 = .ok (.ifCond .ne 6, 3) := by decide +kernel
theorem dX7_limit_10 : decode cX7_limit 10 = .ok (.bipush (-2), 2) := by decide +kernel
theorem dX7_limit_12 : decode cX7_limit 12 = .ok (.ireturn, 1) := by decide +kernel
theorem dX7_limit_13 : decode cX7_limit 13 = .ok (.aload_n 0, 1) := by decide +kernel
theorem dX7_limit_14 : decode cX7_limit 14 = .ok (.invokevirtual 221, 3) := by decide +kernel
theorem dX7_limit_17 : decode cX7_limit 17 = .ok (.aload_n 0, 1) := by decide +kernel
theorem dX7_limit_18 : decode cX7_limit 18 = .ok (.getfield 28, 3) := by decide +kernel
theorem dX7_limit_21 : decode cX7_limit 21 = .ok (.bipush 38, 2) := by decide +kernel
theorem dX7_limit_23 : decode cX7_limit 23 = .ok (.iaload, 1) := by decide +kernel
theorem dX7_limit_24 : decode cX7_limit 24 = .ok (.istore_n 2, 1) := by decide +kernel
theorem dX7_limit_25 : decode cX7_limit 25 = .ok (.aload_n 0, 1) := by decide +kernel
theorem dX7_limit_26 : decode cX7_limit 26 = .ok (.getfield 28, 3) := by decide +kernel
theorem dX7_limit_29 : decode cX7_limit 29 = .ok (.bipush 38, 2) := by decide +kernel
theorem dX7_limit_31 : decode cX7_limit 31 = .ok (.iload_n 1, 1) := by decide +kernel
theorem dX7_limit_32 : decode cX7_limit 32 = .ok (.iastore, 1) := by decide +kernel
theorem dX7_limit_33 : decode cX7_limit 33 = .ok (.iload_n 2, 1) := by decide +kernel
theorem dX7_limit_34 : decode cX7_limit 34 = .ok (.ireturn, 1) := by decide +kernel
theorem dX7_undo_0 : decode cX7_undo 0 = .ok (.aload_n 0, 1) := by decide +kernel
theorem dX7_undo_1 : decode cX7_undo 1 = .ok (.getfield 135, 3) := by decide +kernel
theorem dX7_undo_4 : decode cX7_undo 4 = .ok (.ifCond .ne 6, 3) := by decide +kernel
theorem dX7_undo_7 : decode cX7_undo 7 = .ok (.bipush (-3), 2) := by decide +kernel
theorem dX7_undo_9 : decode cX7_undo 9 = .ok (.ireturn, 1) := by decide +kernel
theorem dX7_undo_10 : decode cX7_undo 10 = .ok (.aload_n 0, 1) := by decide +kernel
theorem dX7_undo_11 : decode cX7_undo 11 = .ok (.dup, 1) := by decide +kernel
theorem dX7_undo_12 : decode cX7_undo 12 = .ok (.getfield 135, 3) := by decide +kernel
theorem dX7_undo_15 : decode cX7_undo 15 = .ok (.iconst 1, 1) := by decide +kernel
theorem dX7_undo_16 : decode cX7_undo 16 = .ok (.isub, 1) := by decide +kernel
theorem dX7_undo_17 : decode cX7_undo 17 = .ok (.putfield 135, 3) := by decide +kernel
theorem dX7_undo_20 : decode cX7_undo 20 = .ok (.aload_n 0, 1) := by decide +kernel
theorem dX7_undo_21 : decode cX7_undo 21 = .ok (.aload_n 0, 1) := by decide +kernel
theorem dX7_undo_22 : decode cX7_undo 22 = .ok (.getfield 218, 3) := by decide +kernel
theorem dX7_undo_25 : decode cX7_undo 25 = .ok (.bipush 14, 2) := by decide +kernel
theorem dX7_undo_27 : decode cX7_undo 27 = .ok (.iadd, 1) := by decide +kernel
theorem dX7_undo_28 : decode cX7_undo 28 = .ok (.iconst 1, 1) := by decide +kernel
theorem dX7_undo_29 : decode cX7_undo 29 = .ok (.isub, 1) := by decide +kernel
theorem dX7_undo_30 : decode cX7_undo 30 = .ok (.bipush 14, 2) := by decide +kernel
theorem dX7_undo_32 : decode cX7_undo 32 = .ok (.irem, 1) := by decide +kernel
theorem dX7_undo_33 : decode cX7_undo 33 = .ok (.putfield 218, 3) := by decide +kernel
theorem dX7_undo_36 : decode cX7_undo 36 = .ok (.iconst 0, 1) := by decide +kernel
theorem dX7_undo_37 : decode cX7_undo 37 = .ok (.istore_n 1, 1) := by decide +kernel
theorem dX7_undo_38 : decode cX7_undo 38 = .ok (.iload_n 1, 1) := by decide +kernel
theorem dX7_undo_39 : decode cX7_undo 39 = .ok (.bipush 40, 2) := by decide +kernel
theorem dX7_undo_41 : decode cX7_undo 41 = .ok (.if_icmp .ge 29, 3) := by decide +kernel
theorem dX7_undo_44 : decode cX7_undo 44 = .ok (.aload_n 0, 1) := by decide +kernel
theorem dX7_undo_45 : decode cX7_undo 45 = .ok (.getfield 28, 3) := by decide +kernel
theorem dX7_undo_48 : decode cX7_undo 48 = .ok (.iload_n 1, 1) := by decide +kernel
theorem dX7_undo_49 : decode cX7_undo 49 = .ok (.aload_n 0, 1) := by decide +kernel
theorem dX7_undo_50 : decode cX7_undo 50 = .ok (.getfield 34, 3) := by decide +kernel
theorem dX7_undo_53 : decode cX7_undo 53 = .ok (.bipush 40, 2) := by decide +kernel
theorem dX7_undo_55 : decode cX7_undo 55 = .ok (.aload_n 0, 1) := by decide +kernel
theorem dX7_undo_56 : decode cX7_undo 56 = .ok (.getfield 218, 3) := by decide +kernel
theorem dX7_undo_59 : decode cX7_undo 59 = .ok (.imul, 1) := by decide +kernel
theorem dX7_undo_60 : decode cX7_undo 60 = .ok (.iload_n 1, 1) := by decide +kernel
theorem dX7_undo_61 : decode cX7_undo 61 = .ok (.iadd, 1) := by decide +kernel
theorem dX7_undo_62 : decode cX7_undo 62 = .ok (.iaload, 1) := by decide +kernel
theorem dX7_undo_63 : decode cX7_undo 63 = .ok (.iastore, 1) := by decide +kernel
theorem dX7_undo_64 : decode cX7_undo 64 = .ok (.iinc 1 1, 3) := by decide +kernel
theorem dX7_undo_67 : decode cX7_undo 67 = .ok (.goto (-29), 3) := by decide +kernel
theorem dX7_undo_70 : decode cX7_undo 70 = .ok (.aload_n 0, 1) := by decide +kernel
theorem dX7_undo_71 : decode cX7_undo 71 = .ok (.getfield 135, 3) := by decide +kernel
theorem dX7_undo_74 : decode cX7_undo 74 = .ok (.ireturn, 1) := by decide +kernel
theorem dX7_ahead_0 : decode cX7_ahead 0 = .ok (.aload_n 0, 1) := by decide +kernel
theorem dX7_ahead_1 : decode cX7_ahead 1 = .ok (.iload_n 3, 1) := by decide +kernel
theorem dX7_ahead_2 : decode cX7_ahead 2 = .ok (.invokevirtual 205, 3) := by decide +kernel
theorem dX7_ahead_5 : decode cX7_ahead 5 = .ok (.ifCond .ne 5, 3) := by decide +kernel
theorem dX7_ahead_8 : decode cX7_ahead 8 = .ok (.iconst (-1), 1) := by decide +kernel
theorem dX7_ahead_9 : decode cX7_ahead 9 = .ok (.ireturn, 1) := by decide +kernel
theorem dX7_ahead_10 : decode cX7_ahead 10 = .ok (.iload_n 1, 1) := by decide +kernel
theorem dX7_ahead_11 : decode cX7_ahead 11 = .ok (.iconst 0, 1) := by decide +kernel
theorem dX7_ahead_12 : decode cX7_ahead 12 = .ok (.bipush 99, 2) := by decide +kernel
theorem dX7_ahead_14 : decode cX7_ahead 14 = .ok (.invokestatic 93, 3) := by decide +kernel
theorem dX7_ahead_17 : decode cX7_ahead 17 = .ok (.ifCond .eq 14, 3) := by decide +kernel
theorem dX7_ahead_20 : decode cX7_ahead 20 = .ok (.iload 4, 2) := by decide +kernel
theorem dX7_ahead_22 : decode cX7_ahead 22 = .ok (.iconst 1, 1) := by decide +kernel
theorem dX7_ahead_23 : decode cX7_ahead 23 = .ok (.bipush 9, 2) := by decide +kernel
theorem dX7_ahead_25 : decode cX7_ahead 25 = .ok (.invokestatic 93, 3) := by decide +kernel
theorem dX7_ahead_28 : decode cX7_ahead 28 = .ok (.ifCond .ne 6, 3) := by decide +kernel
theorem dX7_ahead_31 : decode cX7_ahead 31 = .ok (.bipush (-2), 2) := by decide +kernel
theorem dX7_ahead_33 : decode cX7_ahead 33 = .ok (.ireturn, 1) := by decide +kernel
theorem dX7_ahead_34 : decode cX7_ahead 34 = .ok (.aload_n 0, 1) := by decide +kernel
theorem dX7_ahead_35 : decode cX7_ahead 35 = .ok (.getfield 28, 3) := by decide +kernel
theorem dX7_ahead_38 : decode cX7_ahead 38 = .ok (.aload_n 0, 1) := by decide +kernel
theorem dX7_ahead_39 : decode cX7_ahead 39 = .ok (.getfield 31, 3) := by decide +kernel
theorem dX7_ahead_42 : decode cX7_ahead 42 = .ok (.invokestatic 245, 3) := by decide +kernel
theorem dX7_ahead_45 : decode cX7_ahead 45 = .ok (.aload_n 0, 1) := by decide +kernel
theorem dX7_ahead_46 : decode cX7_ahead 46 = .ok (.iload_n 1, 1) := by decide +kernel
theorem dX7_ahead_47 : decode cX7_ahead 47 = .ok (.iload_n 2, 1) := by decide +kernel
theorem dX7_ahead_48 : decode cX7_ahead 48 = .ok (.ifCond .eq 8, 3) := by decide +kernel
theorem dX7_ahead_51 : decode cX7_ahead 51 = .ok (.bipush 15, 2) := by decide +kernel
theorem dX7_ahead_53 : decode cX7_ahead 53 = .ok (.goto 4, 3) := by decide +kernel
theorem dX7_ahead_56 : decode cX7_ahead 56 = .ok (.iconst 0, 1) := by decide +kernel
theorem dX7_ahead_57 : decode cX7_ahead 57 = .ok (.invokevirtual 249, 3) := by decide +kernel
theorem dX7_ahead_60 : decode cX7_ahead 60 = .ok (.aload_n 0, 1) := by decide +kernel
theorem dX7_ahead_61 : decode cX7_ahead 61 = .ok (.aload_n 0, 1) := by decide +kernel
theorem dX7_ahead_62 : decode cX7_ahead 62 = .ok (.getfield 31, 3) := by decide +kernel
theorem dX7_ahead_65 : decode cX7_ahead 65 = .ok (.iload_n 3, 1) := by decide +kernel
theorem dX7_ahead_66 : decode cX7_ahead 66 = .ok (.iload 4, 2) := by decide +kernel
theorem dX7_ahead_68 : decode cX7_ahead 68 = .ok (.invokevirtual 208, 3) := by decide +kernel
theorem dX7_ahead_71 : decode cX7_ahead 71 = .ok (.ireturn, 1) := by decide +kernel
theorem dX7_done_0 : decode cX7_done 0 = .ok (.aload_n 0, 1) := by decide +kernel
theorem dX7_done_1 : decode cX7_done 1 = .ok (.iload_n 1, 1) := by decide +kernel
theorem dX7_done_2 : decode cX7_done 2 = .ok (.invokevirtual 212, 3) := by decide +kernel
theorem dX7_done_5 : decode cX7_done 5 = .ok (.ifCond .ne 5, 3) := by decide +kernel
theorem dX7_done_8 : decode cX7_done 8 = .ok (.iconst (-1), 1) := by decide +kernel
theorem dX7_done_9 : decode cX7_done 9 = .ok (.ireturn, 1) := by decide +kernel
theorem dX7_done_10 : decode cX7_done 10 = .ok (.aload_n 0, 1) := by decide +kernel
theorem dX7_done_11 : decode cX7_done 11 = .ok (.getfield 28, 3) := by decide +kernel
theorem dX7_done_14 : decode cX7_done 14 = .ok (.aload_n 0, 1) := by decide +kernel
theorem dX7_done_15 : decode cX7_done 15 = .ok (.getfield 31, 3) := by decide +kernel
theorem dX7_done_18 : decode cX7_done 18 = .ok (.invokestatic 245, 3) := by decide +kernel
theorem dX7_done_21 : decode cX7_done 21 = .ok (.iconst 0, 1) := by decide +kernel
theorem dX7_done_22 : decode cX7_done 22 = .ok (.istore_n 2, 1) := by decide +kernel
theorem dX7_done_23 : decode cX7_done 23 = .ok (.iload_n 2, 1) := by decide +kernel
theorem dX7_done_24 : decode cX7_done 24 = .ok (.bipush 100, 2) := by decide +kernel
theorem dX7_done_26 : decode cX7_done 26 = .ok (.if_icmp .ge 33, 3) := by decide +kernel
theorem dX7_done_29 : decode cX7_done 29 = .ok (.aload_n 0, 1) := by decide +kernel
theorem dX7_done_30 : decode cX7_done 30 = .ok (.getfield 31, 3) := by decide +kernel
theorem dX7_done_33 : decode cX7_done 33 = .ok (.bipush 32, 2) := by decide +kernel
theorem dX7_done_35 : decode cX7_done 35 = .ok (.iload_n 1, 1) := by decide +kernel
theorem dX7_done_36 : decode cX7_done 36 = .ok (.iadd, 1) := by decide +kernel
theorem dX7_done_37 : decode cX7_done 37 = .ok (.iaload, 1) := by decide +kernel
theorem dX7_done_38 : decode cX7_done 38 = .ok (.ifCond .ne 5, 3) := by decide +kernel
theorem dX7_done_41 : decode cX7_done 41 = .ok (.iload_n 2, 1) := by decide +kernel
theorem dX7_done_42 : decode cX7_done 42 = .ok (.ireturn, 1) := by decide +kernel
theorem dX7_done_43 : decode cX7_done 43 = .ok (.aload_n 0, 1) := by decide +kernel
theorem dX7_done_44 : decode cX7_done 44 = .ok (.aload_n 0, 1) := by decide +kernel
theorem dX7_done_45 : decode cX7_done 45 = .ok (.getfield 31, 3) := by decide +kernel
theorem dX7_done_48 : decode cX7_done 48 = .ok (.bipush 15, 2) := by decide +kernel
theorem dX7_done_50 : decode cX7_done 50 = .ok (.invokevirtual 186, 3) := by decide +kernel
theorem dX7_done_53 : decode cX7_done 53 = .ok (.iinc 2 1, 3) := by decide +kernel
theorem dX7_done_56 : decode cX7_done 56 = .ok (.goto (-33), 3) := by decide +kernel
theorem dX7_done_59 : decode cX7_done 59 = .ok (.bipush (-9), 2) := by decide +kernel
theorem dX7_done_61 : decode cX7_done 61 = .ok (.ireturn, 1) := by decide +kernel
theorem dX7_haveAll_0 : decode cX7_haveAll 0 = .ok (.iconst 1, 1) := by decide +kernel
theorem dX7_haveAll_1 : decode cX7_haveAll 1 = .ok (.istore_n 1, 1) := by decide +kernel
theorem dX7_haveAll_2 : decode cX7_haveAll 2 = .ok (.iconst 0, 1) := by decide +kernel
theorem dX7_haveAll_3 : decode cX7_haveAll 3 = .ok (.istore_n 2, 1) := by decide +kernel
theorem dX7_haveAll_4 : decode cX7_haveAll 4 = .ok (.iload_n 2, 1) := by decide +kernel
theorem dX7_haveAll_5 : decode cX7_haveAll 5 = .ok (.aload_n 0, 1) := by decide +kernel
theorem dX7_haveAll_6 : decode cX7_haveAll 6 = .ok (.getfield 90, 3) := by decide +kernel
theorem dX7_haveAll_9 : decode cX7_haveAll 9 = .ok (.if_icmp .ge 51, 3) := by decide +kernel
theorem dX7_haveAll_12 : decode cX7_haveAll 12 = .ok (.iload_n 1, 1) := by decide +kernel
theorem dX7_haveAll_13 : decode cX7_haveAll 13 = .ok (.ifCond .eq 39, 3) := by decide +kernel
theorem dX7_haveAll_16 : decode cX7_haveAll 16 = .ok (.aload_n 0, 1) := by decide +kernel
theorem dX7_haveAll_17 : decode cX7_haveAll 17 = .ok (.getfield 28, 3) := by decide +kernel
theorem dX7_haveAll_20 : decode cX7_haveAll 20 = .ok (.iconst 0, 1) := by decide +kernel
theorem dX7_haveAll_21 : decode cX7_haveAll 21 = .ok (.iload_n 2, 1) := by decide +kernel
theorem dX7_haveAll_22 : decode cX7_haveAll 22 = .ok (.iadd, 1) := by decide +kernel
theorem dX7_haveAll_23 : decode cX7_haveAll 23 = .ok (.iaload, 1) := by decide +kernel
theorem dX7_haveAll_24 : decode cX7_haveAll 24 = .ok (.bipush (-9), 2) := by decide +kernel
theorem dX7_haveAll_26 : decode cX7_haveAll 26 = .ok (.if_icmp .eq 22, 3) := by decide +kernel
theorem dX7_haveAll_29 : decode cX7_haveAll 29 = .ok (.aload_n 0, 1) := by decide +kernel
theorem dX7_haveAll_30 : decode cX7_haveAll 30 = .ok (.getfield 31, 3) := by decide +kernel
theorem dX7_haveAll_33 : decode cX7_haveAll 33 = .ok (.bipush 32, 2) := by decide +kernel
theorem dX7_haveAll_35 : decode cX7_haveAll 35 = .ok (.aload_n 0, 1) := by decide +kernel
theorem dX7_haveAll_36 : decode cX7_haveAll 36 = .ok (.getfield 28, 3) := by decide +kernel
theorem dX7_haveAll_39 : decode cX7_haveAll 39 = .ok (.iconst 0, 1) := by decide +kernel
theorem dX7_haveAll_40 : decode cX7_haveAll 40 = .ok (.iload_n 2, 1) := by decide +kernel
theorem dX7_haveAll_41 : decode cX7_haveAll 41 = .ok (.iadd, 1) := by decide +kernel
theorem dX7_haveAll_42 : decode cX7_haveAll 42 = .ok (.iaload, 1) := by decide +kernel
theorem dX7_haveAll_43 : decode cX7_haveAll 43 = .ok (.iadd, 1) := by decide +kernel
theorem dX7_haveAll_44 : decode cX7_haveAll 44 = .ok (.iaload, 1) := by decide +kernel
theorem dX7_haveAll_45 : decode cX7_haveAll 45 = .ok (.ifCond .ne 7, 3) := by decide +kernel
theorem dX7_haveAll_48 : decode cX7_haveAll 48 = .ok (.iconst 1, 1) := by decide +kernel
theorem dX7_haveAll_49 : decode cX7_haveAll 49 = .ok (.goto 4, 3) := by decide +kernel
theorem dX7_haveAll_52 : decode cX7_haveAll 52 = .ok (.iconst 0, 1) := by decide +kernel
theorem dX7_haveAll_53 : decode cX7_haveAll 53 = .ok (.istore_n 1, 1) := by decide +kernel
theorem dX7_haveAll_54 : decode cX7_haveAll 54 = .ok (.iinc 2 1, 3) := by decide +kernel
theorem dX7_haveAll_57 : decode cX7_haveAll 57 = .ok (.goto (-53), 3) := by decide +kernel
theorem dX7_haveAll_60 : decode cX7_haveAll 60 = .ok (.iload_n 1, 1) := by decide +kernel
theorem dX7_haveAll_61 : decode cX7_haveAll 61 = .ok (.ireturn, 1) := by decide +kernel
theorem dX7_least_0 : decode cX7_least 0 = .ok (.iload_n 1, 1) := by decide +kernel
theorem dX7_least_1 : decode cX7_least 1 = .ok (.iconst 0, 1) := by decide +kernel
theorem dX7_least_2 : decode cX7_least 2 = .ok (.bipush 40, 2) := by decide +kernel
theorem dX7_least_4 : decode cX7_least 4 = .ok (.invokestatic 93, 3) := by decide +kernel
theorem dX7_least_7 : decode cX7_least 7 = .ok (.ifCond .ne 6, 3) := by decide +kernel
theorem dX7_least_10 : decode cX7_least 10 = .ok (.bipush (-2), 2) := by decide +kernel
theorem dX7_least_12 : decode cX7_least 12 = .ok (.ireturn, 1) := by decide +kernel
theorem dX7_least_13 : decode cX7_least 13 = .ok (.iconst 0, 1) := by decide +kernel
theorem dX7_least_14 : decode cX7_least 14 = .ok (.istore_n 2, 1) := by decide +kernel
theorem dX7_least_15 : decode cX7_least 15 = .ok (.iload_n 2, 1) := by decide +kernel
theorem dX7_least_16 : decode cX7_least 16 = .ok (.bipush 100, 2) := by decide +kernel
theorem dX7_least_18 : decode cX7_least 18 = .ok (.if_icmp .ge 44, 3) := by decide +kernel
theorem dX7_least_21 : decode cX7_least 21 = .ok (.aload_n 0, 1) := by decide +kernel
theorem dX7_least_22 : decode cX7_least 22 = .ok (.getfield 28, 3) := by decide +kernel
theorem dX7_least_25 : decode cX7_least 25 = .ok (.aload_n 0, 1) := by decide +kernel
theorem dX7_least_26 : decode cX7_least 26 = .ok (.getfield 31, 3) := by decide +kernel
theorem dX7_least_29 : decode cX7_least 29 = .ok (.invokestatic 245, 3) := by decide +kernel
theorem dX7_least_32 : decode cX7_least 32 = .ok (.aload_n 0, 1) := by decide +kernel
theorem dX7_least_33 : decode cX7_least 33 = .ok (.getfield 31, 3) := by decide +kernel
theorem dX7_least_36 : decode cX7_least 36 = .ok (.bipush 38, 2) := by decide +kernel
theorem dX7_least_38 : decode cX7_least 38 = .ok (.iload_n 2, 1) := by decide +kernel
theorem dX7_least_39 : decode cX7_least 39 = .ok (.iastore, 1) := by decide +kernel
theorem dX7_least_40 : decode cX7_least 40 = .ok (.aload_n 0, 1) := by decide +kernel
theorem dX7_least_41 : decode cX7_least 41 = .ok (.iload_n 1, 1) := by decide +kernel
theorem dX7_least_42 : decode cX7_least 42 = .ok (.bipush 15, 2) := by decide +kernel
theorem dX7_least_44 : decode cX7_least 44 = .ok (.invokevirtual 249, 3) := by decide +kernel
theorem dX7_least_47 : decode cX7_least 47 = .ok (.aload_n 0, 1) := by decide +kernel
theorem dX7_least_48 : decode cX7_least 48 = .ok (.invokevirtual 253, 3) := by decide +kernel
theorem dX7_least_51 : decode cX7_least 51 = .ok (.ifCond .eq 5, 3) := by decide +kernel
theorem dX7_least_54 : decode cX7_least 54 = .ok (.iload_n 2, 1) := by decide +kernel
theorem dX7_least_55 : decode cX7_least 55 = .ok (.ireturn, 1) := by decide +kernel
theorem dX7_least_56 : decode cX7_least 56 = .ok (.iinc 2 1, 3) := by decide +kernel
theorem dX7_least_59 : decode cX7_least 59 = .ok (.goto (-44), 3) := by decide +kernel
theorem dX7_least_62 : decode cX7_least 62 = .ok (.bipush (-9), 2) := by decide +kernel
theorem dX7_least_64 : decode cX7_least 64 = .ok (.ireturn, 1) := by decide +kernel
theorem dX7_signOf_0 : decode cX7_signOf 0 = .ok (.iconst 0, 1) := by decide +kernel
theorem dX7_signOf_1 : decode cX7_signOf 1 = .ok (.istore_n 3, 1) := by decide +kernel
theorem dX7_signOf_2 : decode cX7_signOf 2 = .ok (.iconst 0, 1) := by decide +kernel
theorem dX7_signOf_3 : decode cX7_signOf 3 = .ok (.istore 4, 2) := by decide +kernel
theorem dX7_signOf_5 : decode cX7_signOf 5 = .ok (.iload 4, 2) := by decide +kernel
theorem dX7_signOf_7 : decode cX7_signOf 7 = .ok (.iload_n 1, 1) := by decide +kernel
theorem dX7_signOf_8 : decode cX7_signOf 8 = .ok (.if_icmp .ge 44, 3) := by decide +kernel
theorem dX7_signOf_11 : decode cX7_signOf 11 = .ok (.iload_n 2, 1) := by decide +kernel
theorem dX7_signOf_12 : decode cX7_signOf 12 = .ok (.bipush 10, 2) := by decide +kernel
theorem dX7_signOf_14 : decode cX7_signOf 14 = .ok (.iload_n 1, 1) := by decide +kernel
theorem dX7_signOf_15 : decode cX7_signOf 15 = .ok (.iconst 1, 1) := by decide +kernel
theorem dX7_signOf_16 : decode cX7_signOf 16 = .ok (.isub, 1) := by decide +kernel
theorem dX7_signOf_17 : decode cX7_signOf 17 = .ok (.iload 4, 2) := by decide +kernel
theorem dX7_signOf_19 : decode cX7_signOf 19 = .ok (.isub, 1) := by decide +kernel
theorem dX7_signOf_20 : decode cX7_signOf 20 = .ok (.invokestatic 257, 3) := by decide +kernel
theorem dX7_signOf_23 : decode cX7_signOf 23 = .ok (.idiv, 1) := by decide +kernel
theorem dX7_signOf_24 : decode cX7_signOf 24 = .ok (.bipush 10, 2) := by decide +kernel
theorem dX7_signOf_26 : decode cX7_signOf 26 = .ok (.irem, 1) := by decide +kernel
theorem dX7_signOf_27 : decode cX7_signOf 27 = .ok (.istore 5, 2) := by decide +kernel
theorem dX7_signOf_29 : decode cX7_signOf 29 = .ok (.iload 5, 2) := by decide +kernel
theorem dX7_signOf_31 : decode cX7_signOf 31 = .ok (.ifCond .le 13, 3) := by decide +kernel
theorem dX7_signOf_34 : decode cX7_signOf 34 = .ok (.iload_n 3, 1) := by decide +kernel
theorem dX7_signOf_35 : decode cX7_signOf 35 = .ok (.iload 5, 2) := by decide +kernel
theorem dX7_signOf_37 : decode cX7_signOf 37 = .ok (.iload_n 0, 1) := by decide +kernel
theorem dX7_signOf_38 : decode cX7_signOf 38 = .ok (.invokestatic 164, 3) := by decide +kernel
theorem dX7_signOf_41 : decode cX7_signOf 41 = .ok (.goto 4, 3) := by decide +kernel
theorem dX7_signOf_44 : decode cX7_signOf 44 = .ok (.iload_n 3, 1) := by decide +kernel
theorem dX7_signOf_45 : decode cX7_signOf 45 = .ok (.istore_n 3, 1) := by decide +kernel
theorem dX7_signOf_46 : decode cX7_signOf 46 = .ok (.iinc 4 1, 3) := by decide +kernel
theorem dX7_signOf_49 : decode cX7_signOf 49 = .ok (.goto (-44), 3) := by decide +kernel
theorem dX7_signOf_52 : decode cX7_signOf 52 = .ok (.iload_n 3, 1) := by decide +kernel
theorem dX7_signOf_53 : decode cX7_signOf 53 = .ok (.ireturn, 1) := by decide +kernel
theorem dX7_signed_0 : decode cX7_signed 0 = .ok (.aload_n 0, 1) := by decide +kernel
theorem dX7_signed_1 : decode cX7_signed 1 = .ok (.iload_n 1, 1) := by decide +kernel
theorem dX7_signed_2 : decode cX7_signed 2 = .ok (.invokevirtual 205, 3) := by decide +kernel
theorem dX7_signed_5 : decode cX7_signed 5 = .ok (.ifCond .ne 5, 3) := by decide +kernel
theorem dX7_signed_8 : decode cX7_signed 8 = .ok (.iconst (-1), 1) := by decide +kernel
theorem dX7_signed_9 : decode cX7_signed 9 = .ok (.ireturn, 1) := by decide +kernel
theorem dX7_signed_10 : decode cX7_signed 10 = .ok (.iload_n 2, 1) := by decide +kernel
theorem dX7_signed_11 : decode cX7_signed 11 = .ok (.iconst 1, 1) := by decide +kernel
theorem dX7_signed_12 : decode cX7_signed 12 = .ok (.bipush 6, 2) := by decide +kernel
theorem dX7_signed_14 : decode cX7_signed 14 = .ok (.invokestatic 93, 3) := by decide +kernel
theorem dX7_signed_17 : decode cX7_signed 17 = .ok (.ifCond .eq 19, 3) := by decide +kernel
theorem dX7_signed_20 : decode cX7_signed 20 = .ok (.iload_n 3, 1) := by decide +kernel
theorem dX7_signed_21 : decode cX7_signed 21 = .ok (.iconst 0, 1) := by decide +kernel
theorem dX7_signed_22 : decode cX7_signed 22 = .ok (.bipush 10, 2) := by decide +kernel
theorem dX7_signed_24 : decode cX7_signed 24 = .ok (.iload_n 2, 1) := by decide +kernel
theorem dX7_signed_25 : decode cX7_signed 25 = .ok (.invokestatic 257, 3) := by decide +kernel
theorem dX7_signed_28 : decode cX7_signed 28 = .ok (.iconst 1, 1) := by decide +kernel
theorem dX7_signed_29 : decode cX7_signed 29 = .ok (.isub, 1) := by decide +kernel
theorem dX7_signed_30 : decode cX7_signed 30 = .ok (.invokestatic 93, 3) := by decide +kernel
theorem dX7_signed_33 : decode cX7_signed 33 = .ok (.ifCond .ne 6, 3) := by decide +kernel
theorem dX7_signed_36 : decode cX7_signed 36 = .ok (.bipush (-2), 2) := by decide +kernel
theorem dX7_signed_38 : decode cX7_signed 38 = .ok (.ireturn, 1) := by decide +kernel
theorem dX7_signed_39 : decode cX7_signed 39 = .ok (.iload_n 1, 1) := by decide +kernel
theorem dX7_signed_40 : decode cX7_signed 40 = .ok (.iload_n 2, 1) := by decide +kernel
theorem dX7_signed_41 : decode cX7_signed 41 = .ok (.iload_n 3, 1) := by decide +kernel
theorem dX7_signed_42 : decode cX7_signed 42 = .ok (.invokestatic 261, 3) := by decide +kernel
theorem dX7_signed_45 : decode cX7_signed 45 = .ok (.ireturn, 1) := by decide +kernel
theorem dX7_forged_0 : decode cX7_forged 0 = .ok (.aload_n 0, 1) := by decide +kernel
theorem dX7_forged_1 : decode cX7_forged 1 = .ok (.iload_n 1, 1) := by decide +kernel
theorem dX7_forged_2 : decode cX7_forged 2 = .ok (.invokevirtual 205, 3) := by decide +kernel
theorem dX7_forged_5 : decode cX7_forged 5 = .ok (.ifCond .ne 5, 3) := by decide +kernel
theorem dX7_forged_8 : decode cX7_forged 8 = .ok (.iconst (-1), 1) := by decide +kernel
theorem dX7_forged_9 : decode cX7_forged 9 = .ok (.ireturn, 1) := by decide +kernel
theorem dX7_forged_10 : decode cX7_forged 10 = .ok (.iload_n 2, 1) := by decide +kernel
theorem dX7_forged_11 : decode cX7_forged 11 = .ok (.iconst 1, 1) := by decide +kernel
theorem dX7_forged_12 : decode cX7_forged 12 = .ok (.iconst 3, 1) := by decide +kernel
theorem dX7_forged_13 : decode cX7_forged 13 = .ok (.invokestatic 93, 3) := by decide +kernel
theorem dX7_forged_16 : decode cX7_forged 16 = .ok (.ifCond .eq 14, 3) := by decide +kernel
theorem dX7_forged_19 : decode cX7_forged 19 = .ok (.iload_n 3, 1) := by decide +kernel
theorem dX7_forged_20 : decode cX7_forged 20 = .ok (.iconst 0, 1) := by decide +kernel
theorem dX7_forged_21 : decode cX7_forged 21 = .ok (.sipush 9972, 3) := by decide +kernel
theorem dX7_forged_24 : decode cX7_forged 24 = .ok (.invokestatic 93, 3) := by decide +kernel
theorem dX7_forged_27 : decode cX7_forged 27 = .ok (.ifCond .ne 6, 3) := by decide +kernel
theorem dX7_forged_30 : decode cX7_forged 30 = .ok (.bipush (-2), 2) := by decide +kernel
theorem dX7_forged_32 : decode cX7_forged 32 = .ok (.ireturn, 1) := by decide +kernel
theorem dX7_forged_33 : decode cX7_forged 33 = .ok (.iconst 0, 1) := by decide +kernel
theorem dX7_forged_34 : decode cX7_forged 34 = .ok (.istore 4, 2) := by decide +kernel
theorem dX7_forged_36 : decode cX7_forged 36 = .ok (.iload 4, 2) := by decide +kernel
theorem dX7_forged_38 : decode cX7_forged 38 = .ok (.bipush 10, 2) := by decide +kernel
theorem dX7_forged_40 : decode cX7_forged 40 = .ok (.iload_n 2, 1) := by decide +kernel
theorem dX7_forged_41 : decode cX7_forged 41 = .ok (.invokestatic 257, 3) := by decide +kernel
theorem dX7_forged_44 : decode cX7_forged 44 = .ok (.if_icmp .ge 23, 3) := by decide +kernel
theorem dX7_forged_47 : decode cX7_forged 47 = .ok (.iload_n 1, 1) := by decide +kernel
theorem dX7_forged_48 : decode cX7_forged 48 = .ok (.iload_n 2, 1) := by decide +kernel
theorem dX7_forged_49 : decode cX7_forged 49 = .ok (.iload 4, 2) := by decide +kernel
theorem dX7_forged_51 : decode cX7_forged 51 = .ok (.invokestatic 261, 3) := by decide +kernel
theorem dX7_forged_54 : decode cX7_forged 54 = .ok (.iload_n 3, 1) := by decide +kernel
theorem dX7_forged_55 : decode cX7_forged 55 = .ok (.if_icmp .ne 6, 3) := by decide +kernel
theorem dX7_forged_58 : decode cX7_forged 58 = .ok (.iload 4, 2) := by decide +kernel
theorem dX7_forged_60 : decode cX7_forged 60 = .ok (.ireturn, 1) := by decide +kernel
theorem dX7_forged_61 : decode cX7_forged 61 = .ok (.iinc 4 1, 3) := by decide +kernel
theorem dX7_forged_64 : decode cX7_forged 64 = .ok (.goto (-28), 3) := by decide +kernel
theorem dX7_forged_67 : decode cX7_forged 67 = .ok (.bipush (-9), 2) := by decide +kernel
theorem dX7_forged_69 : decode cX7_forged 69 = .ok (.ireturn, 1) := by decide +kernel
theorem dX7_judged_0 : decode cX7_judged 0 = .ok (.iload_n 1, 1) := by decide +kernel
theorem dX7_judged_1 : decode cX7_judged 1 = .ok (.tableswitch 297 1 8 #[47, 73, 116, 152, 191, 229, 255, 282], 47) := by decide +kernel
theorem dX7_judged_48 : decode cX7_judged 48 = .ok (.aload_n 0, 1) := by decide +kernel
theorem dX7_judged_49 : decode cX7_judged 49 = .ok (.bipush 10, 2) := by decide +kernel
theorem dX7_judged_51 : decode cX7_judged 51 = .ok (.iload_n 2, 1) := by decide +kernel
theorem dX7_judged_52 : decode cX7_judged 52 = .ok (.imul, 1) := by decide +kernel
theorem dX7_judged_53 : decode cX7_judged 53 = .ok (.iload_n 3, 1) := by decide +kernel
theorem dX7_judged_54 : decode cX7_judged 54 = .ok (.iadd, 1) := by decide +kernel
theorem dX7_judged_55 : decode cX7_judged 55 = .ok (.iconst 0, 1) := by decide +kernel
theorem dX7_judged_56 : decode cX7_judged 56 = .ok (.invokevirtual 249, 3) := by decide +kernel
theorem dX7_judged_59 : decode cX7_judged 59 = .ok (.bipush 10, 2) := by decide +kernel
theorem dX7_judged_61 : decode cX7_judged 61 = .ok (.iload_n 2, 1) := by decide +kernel
theorem dX7_judged_62 : decode cX7_judged 62 = .ok (.imul, 1) := by decide +kernel
theorem dX7_judged_63 : decode cX7_judged 63 = .ok (.iload_n 3, 1) := by decide +kernel
theorem dX7_judged_64 : decode cX7_judged 64 = .ok (.iadd, 1) := by decide +kernel
theorem dX7_judged_65 : decode cX7_judged 65 = .ok (.ifCond .le 7, 3) := by decide +kernel
theorem dX7_judged_68 : decode cX7_judged 68 = .ok (.iconst 1, 1) := by decide +kernel
theorem dX7_judged_69 : decode cX7_judged 69 = .ok (.goto 4, 3) := by decide +kernel
theorem dX7_judged_72 : decode cX7_judged 72 = .ok (.iconst 0, 1) := by decide +kernel
theorem dX7_judged_73 : decode cX7_judged 73 = .ok (.ireturn, 1) := by decide +kernel
theorem dX7_judged_74 : decode cX7_judged 74 = .ok (.aload_n 0, 1) := by decide +kernel
theorem dX7_judged_75 : decode cX7_judged 75 = .ok (.iload_n 2, 1) := by decide +kernel
theorem dX7_judged_76 : decode cX7_judged 76 = .ok (.invokevirtual 205, 3) := by decide +kernel
theorem dX7_judged_79 : decode cX7_judged 79 = .ok (.ifCond .eq 24, 3) := by decide +kernel
theorem dX7_judged_82 : decode cX7_judged 82 = .ok (.aload_n 0, 1) := by decide +kernel
theorem dX7_judged_83 : decode cX7_judged 83 = .ok (.iload_n 3, 1) := by decide +kernel
theorem dX7_judged_84 : decode cX7_judged 84 = .ok (.invokevirtual 212, 3) := by decide +kernel
theorem dX7_judged_87 : decode cX7_judged 87 = .ok (.ifCond .eq 16, 3) := by decide +kernel
theorem dX7_judged_90 : decode cX7_judged 90 = .ok (.aload_n 0, 1) := by decide +kernel
theorem dX7_judged_91 : decode cX7_judged 91 = .ok (.aload_n 0, 1) := by decide +kernel
theorem dX7_judged_92 : decode cX7_judged 92 = .ok (.getfield 31, 3) := by decide +kernel
theorem dX7_judged_95 : decode cX7_judged 95 = .ok (.iload_n 2, 1) := by decide +kernel
theorem dX7_judged_96 : decode cX7_judged 96 = .ok (.iload_n 3, 1) := by decide +kernel
theorem dX7_judged_97 : decode cX7_judged 97 = .ok (.invokevirtual 227, 3) := by decide +kernel
theorem dX7_judged_100 : decode cX7_judged 100 = .ok (.ifCond .ne 5, 3) := by decide +kernel
theorem dX7_judged_103 : decode cX7_judged 103 = .ok (.iconst 0, 1) := by decide +kernel
theorem dX7_judged_104 : decode cX7_judged 104 = .ok (.ireturn, 1) := by decide +kernel
theorem dX7_judged_105 : decode cX7_judged 105 = .ok (.aload_n 0, 1) := by decide +kernel
theorem dX7_judged_106 : decode cX7_judged 106 = .ok (.aload_n 0, 1) := by decide +kernel
theorem dX7_judged_107 : decode cX7_judged 107 = .ok (.getfield 31, 3) := by decide +kernel
theorem dX7_judged_110 : decode cX7_judged 110 = .ok (.iload_n 2, 1) := by decide +kernel
theorem dX7_judged_111 : decode cX7_judged 111 = .ok (.iload_n 3, 1) := by decide +kernel
theorem dX7_judged_112 : decode cX7_judged 112 = .ok (.invokevirtual 230, 3) := by decide +kernel
theorem dX7_judged_115 : decode cX7_judged 115 = .ok (.iconst 1, 1) := by decide +kernel
theorem dX7_judged_116 : decode cX7_judged 116 = .ok (.ireturn, 1) := by decide +kernel
theorem dX7_judged_117 : decode cX7_judged 117 = .ok (.iload_n 2, 1) := by decide +kernel
theorem dX7_judged_118 : decode cX7_judged 118 = .ok (.ifCond .ne 22, 3) := by decide +kernel
theorem dX7_judged_121 : decode cX7_judged 121 = .ok (.aload_n 0, 1) := by decide +kernel
theorem dX7_judged_122 : decode cX7_judged 122 = .ok (.iload_n 3, 1) := by decide +kernel
theorem dX7_judged_123 : decode cX7_judged 123 = .ok (.invokevirtual 205, 3) := by decide +kernel
theorem dX7_judged_126 : decode cX7_judged 126 = .ok (.ifCond .eq 14, 3) := by decide +kernel
theorem dX7_judged_129 : decode cX7_judged 129 = .ok (.aload_n 0, 1) := by decide +kernel
theorem dX7_judged_130 : decode cX7_judged 130 = .ok (.getfield 31, 3) := by decide +kernel
theorem dX7_judged_133 : decode cX7_judged 133 = .ok (.iconst 4, 1) := by decide +kernel
theorem dX7_judged_134 : decode cX7_judged 134 = .ok (.iload_n 3, 1) := by decide +kernel
theorem dX7_judged_135 : decode cX7_judged 135 = .ok (.iadd, 1) := by decide +kernel
theorem dX7_judged_136 : decode cX7_judged 136 = .ok (.iaload, 1) := by decide +kernel
theorem dX7_judged_137 : decode cX7_judged 137 = .ok (.ifCond .ne 5, 3) := by decide +kernel
theorem dX7_judged_140 : decode cX7_judged 140 = .ok (.iconst 0, 1) := by decide +kernel
theorem dX7_judged_141 : decode cX7_judged 141 = .ok (.ireturn, 1) := by decide +kernel
theorem dX7_judged_142 : decode cX7_judged 142 = .ok (.aload_n 0, 1) := by decide +kernel
theorem dX7_judged_143 : decode cX7_judged 143 = .ok (.aload_n 0, 1) := by decide +kernel
theorem dX7_judged_144 : decode cX7_judged 144 = .ok (.getfield 31, 3) := by decide +kernel
theorem dX7_judged_147 : decode cX7_judged 147 = .ok (.iload_n 3, 1) := by decide +kernel
theorem dX7_judged_148 : decode cX7_judged 148 = .ok (.invokevirtual 233, 3) := by decide +kernel
theorem dX7_judged_151 : decode cX7_judged 151 = .ok (.iconst 1, 1) := by decide +kernel
theorem dX7_judged_152 : decode cX7_judged 152 = .ok (.ireturn, 1) := by decide +kernel
theorem dX7_judged_153 : decode cX7_judged 153 = .ok (.aload_n 0, 1) := by decide +kernel
theorem dX7_judged_154 : decode cX7_judged 154 = .ok (.iload_n 2, 1) := by decide +kernel
theorem dX7_judged_155 : decode cX7_judged 155 = .ok (.invokevirtual 205, 3) := by decide +kernel
theorem dX7_judged_158 : decode cX7_judged 158 = .ok (.ifCond .eq 20, 3) := by decide +kernel
theorem dX7_judged_161 : decode cX7_judged 161 = .ok (.iload_n 3, 1) := by decide +kernel
theorem dX7_judged_162 : decode cX7_judged 162 = .ok (.iconst 5, 1) := by decide +kernel
theorem dX7_judged_163 : decode cX7_judged 163 = .ok (.if_icmp .gt 15, 3) := by decide +kernel
theorem dX7_judged_166 : decode cX7_judged 166 = .ok (.aload_n 0, 1) := by decide +kernel
theorem dX7_judged_167 : decode cX7_judged 167 = .ok (.aload_n 0, 1) := by decide +kernel
theorem dX7_judged_168 : decode cX7_judged 168 = .ok (.getfield 31, 3) := by decide +kernel
theorem dX7_judged_171 : decode cX7_judged 171 = .ok (.iload_n 2, 1) := by decide +kernel
theorem dX7_judged_172 : decode cX7_judged 172 = .ok (.invokevirtual 236, 3) := by decide +kernel
theorem dX7_judged_175 : decode cX7_judged 175 = .ok (.ifCond .ne 5, 3) := by decide +kernel
theorem dX7_judged_178 : decode cX7_judged 178 = .ok (.iconst 0, 1) := by decide +kernel
theorem dX7_judged_179 : decode cX7_judged 179 = .ok (.ireturn, 1) := by decide +kernel
theorem dX7_judged_180 : decode cX7_judged 180 = .ok (.aload_n 0, 1) := by decide +kernel
theorem dX7_judged_181 : decode cX7_judged 181 = .ok (.aload_n 0, 1) := by decide +kernel
theorem dX7_judged_182 : decode cX7_judged 182 = .ok (.getfield 31, 3) := by decide +kernel
theorem dX7_judged_185 : decode cX7_judged 185 = .ok (.iload_n 2, 1) := by decide +kernel
theorem dX7_judged_186 : decode cX7_judged 186 = .ok (.iload_n 3, 1) := by decide +kernel
theorem dX7_judged_187 : decode cX7_judged 187 = .ok (.invokevirtual 239, 3) := by decide +kernel
theorem dX7_judged_190 : decode cX7_judged 190 = .ok (.iconst 1, 1) := by decide +kernel
theorem dX7_judged_191 : decode cX7_judged 191 = .ok (.ireturn, 1) := by decide +kernel
theorem dX7_judged_192 : decode cX7_judged 192 = .ok (.iload_n 2, 1) := by decide +kernel
theorem dX7_judged_193 : decode cX7_judged 193 = .ok (.ifCond .ne 23, 3) := by decide +kernel
theorem dX7_judged_196 : decode cX7_judged 196 = .ok (.aload_n 0, 1) := by decide +kernel
theorem dX7_judged_197 : decode cX7_judged 197 = .ok (.iload_n 3, 1) := by decide +kernel
theorem dX7_judged_198 : decode cX7_judged 198 = .ok (.invokevirtual 205, 3) := by decide +kernel
theorem dX7_judged_201 : decode cX7_judged 201 = .ok (.ifCond .eq 15, 3) := by decide +kernel
theorem dX7_judged_204 : decode cX7_judged 204 = .ok (.aload_n 0, 1) := by decide +kernel
theorem dX7_judged_205 : decode cX7_judged 205 = .ok (.getfield 31, 3) := by decide +kernel
theorem dX7_judged_208 : decode cX7_judged 208 = .ok (.iconst 4, 1) := by decide +kernel
theorem dX7_judged_209 : decode cX7_judged 209 = .ok (.iload_n 3, 1) := by decide +kernel
theorem dX7_judged_210 : decode cX7_judged 210 = .ok (.iadd, 1) := by decide +kernel
theorem dX7_judged_211 : decode cX7_judged 211 = .ok (.iaload, 1) := by decide +kernel
theorem dX7_judged_212 : decode cX7_judged 212 = .ok (.iconst 4, 1) := by decide +kernel
theorem dX7_judged_213 : decode cX7_judged 213 = .ok (.if_icmp .eq 5, 3) := by decide +kernel
theorem dX7_judged_216 : decode cX7_judged 216 = .ok (.iconst 0, 1) := by decide +kernel
theorem dX7_judged_217 : decode cX7_judged 217 = .ok (.ireturn, 1) := by decide +kernel
theorem dX7_judged_218 : decode cX7_judged 218 = .ok (.aload_n 0, 1) := by decide +kernel
theorem dX7_judged_219 : decode cX7_judged 219 = .ok (.aload_n 0, 1) := by decide +kernel
theorem dX7_judged_220 : decode cX7_judged 220 = .ok (.getfield 31, 3) := by decide +kernel
theorem dX7_judged_223 : decode cX7_judged 223 = .ok (.iload_n 3, 1) := by decide +kernel
theorem dX7_judged_224 : decode cX7_judged 224 = .ok (.iconst 1, 1) := by decide +kernel
theorem dX7_judged_225 : decode cX7_judged 225 = .ok (.invokevirtual 224, 3) := by decide +kernel
theorem dX7_judged_228 : decode cX7_judged 228 = .ok (.iconst 1, 1) := by decide +kernel
theorem dX7_judged_229 : decode cX7_judged 229 = .ok (.ireturn, 1) := by decide +kernel
theorem dX7_judged_230 : decode cX7_judged 230 = .ok (.aload_n 0, 1) := by decide +kernel
theorem dX7_judged_231 : decode cX7_judged 231 = .ok (.iload_n 2, 1) := by decide +kernel
theorem dX7_judged_232 : decode cX7_judged 232 = .ok (.invokevirtual 205, 3) := by decide +kernel
theorem dX7_judged_235 : decode cX7_judged 235 = .ok (.ifCond .eq 19, 3) := by decide +kernel
theorem dX7_judged_238 : decode cX7_judged 238 = .ok (.aload_n 0, 1) := by decide +kernel
theorem dX7_judged_239 : decode cX7_judged 239 = .ok (.getfield 31, 3) := by decide +kernel
theorem dX7_judged_242 : decode cX7_judged 242 = .ok (.iconst 4, 1) := by decide +kernel
theorem dX7_judged_243 : decode cX7_judged 243 = .ok (.iload_n 2, 1) := by decide +kernel
theorem dX7_judged_244 : decode cX7_judged 244 = .ok (.iadd, 1) := by decide +kernel
theorem dX7_judged_245 : decode cX7_judged 245 = .ok (.iaload, 1) := by decide +kernel
theorem dX7_judged_246 : decode cX7_judged 246 = .ok (.iload_n 3, 1) := by decide +kernel
theorem dX7_judged_247 : decode cX7_judged 247 = .ok (.if_icmp .ne 7, 3) := by decide +kernel
theorem dX7_judged_250 : decode cX7_judged 250 = .ok (.iconst 1, 1) := by decide +kernel
theorem dX7_judged_251 : decode cX7_judged 251 = .ok (.goto 4, 3) := by decide +kernel
theorem dX7_judged_254 : decode cX7_judged 254 = .ok (.iconst 0, 1) := by decide +kernel
theorem dX7_judged_255 : decode cX7_judged 255 = .ok (.ireturn, 1) := by decide +kernel
theorem dX7_judged_256 : decode cX7_judged 256 = .ok (.aload_n 0, 1) := by decide +kernel
theorem dX7_judged_257 : decode cX7_judged 257 = .ok (.iload_n 2, 1) := by decide +kernel
theorem dX7_judged_258 : decode cX7_judged 258 = .ok (.invokevirtual 212, 3) := by decide +kernel
theorem dX7_judged_261 : decode cX7_judged 261 = .ok (.ifCond .eq 20, 3) := by decide +kernel
theorem dX7_judged_264 : decode cX7_judged 264 = .ok (.aload_n 0, 1) := by decide +kernel
theorem dX7_judged_265 : decode cX7_judged 265 = .ok (.getfield 31, 3) := by decide +kernel
theorem dX7_judged_268 : decode cX7_judged 268 = .ok (.bipush 32, 2) := by decide +kernel
theorem dX7_judged_270 : decode cX7_judged 270 = .ok (.iload_n 2, 1) := by decide +kernel
theorem dX7_judged_271 : decode cX7_judged 271 = .ok (.iadd, 1) := by decide +kernel
theorem dX7_judged_272 : decode cX7_judged 272 = .ok (.iaload, 1) := by decide +kernel
theorem dX7_judged_273 : decode cX7_judged 273 = .ok (.iload_n 3, 1) := by decide +kernel
theorem dX7_judged_274 : decode cX7_judged 274 = .ok (.if_icmp .gt 7, 3) := by decide +kernel
theorem dX7_judged_277 : decode cX7_judged 277 = .ok (.iconst 1, 1) := by decide +kernel
theorem dX7_judged_278 : decode cX7_judged 278 = .ok (.goto 4, 3) := by decide +kernel
theorem dX7_judged_281 : decode cX7_judged 281 = .ok (.iconst 0, 1) := by decide +kernel
theorem dX7_judged_282 : decode cX7_judged 282 = .ok (.ireturn, 1) := by decide +kernel
theorem dX7_judged_283 : decode cX7_judged 283 = .ok (.aload_n 0, 1) := by decide +kernel
theorem dX7_judged_284 : decode cX7_judged 284 = .ok (.getfield 31, 3) := by decide +kernel
theorem dX7_judged_287 : decode cX7_judged 287 = .ok (.bipush 38, 2) := by decide +kernel
theorem dX7_judged_289 : decode cX7_judged 289 = .ok (.bipush 10, 2) := by decide +kernel
theorem dX7_judged_291 : decode cX7_judged 291 = .ok (.iload_n 2, 1) := by decide +kernel
theorem dX7_judged_292 : decode cX7_judged 292 = .ok (.imul, 1) := by decide +kernel
theorem dX7_judged_293 : decode cX7_judged 293 = .ok (.iload_n 3, 1) := by decide +kernel
theorem dX7_judged_294 : decode cX7_judged 294 = .ok (.iadd, 1) := by decide +kernel
theorem dX7_judged_295 : decode cX7_judged 295 = .ok (.iastore, 1) := by decide +kernel
theorem dX7_judged_296 : decode cX7_judged 296 = .ok (.iconst 1, 1) := by decide +kernel
theorem dX7_judged_297 : decode cX7_judged 297 = .ok (.ireturn, 1) := by decide +kernel
theorem dX7_judged_298 : decode cX7_judged 298 = .ok (.iconst 0, 1) := by decide +kernel
theorem dX7_judged_299 : decode cX7_judged 299 = .ok (.ireturn, 1) := by decide +kernel
theorem dX7_judge_0 : decode cX7_judge 0 = .ok (.iload_n 1, 1) := by decide +kernel
theorem dX7_judge_1 : decode cX7_judge 1 = .ok (.iconst 1, 1) := by decide +kernel
theorem dX7_judge_2 : decode cX7_judge 2 = .ok (.iconst 3, 1) := by decide +kernel
theorem dX7_judge_3 : decode cX7_judge 3 = .ok (.invokestatic 93, 3) := by decide +kernel
theorem dX7_judge_6 : decode cX7_judge 6 = .ok (.ifCond .eq 20, 3) := by decide +kernel
theorem dX7_judge_9 : decode cX7_judge 9 = .ok (.iload_n 2, 1) := by decide +kernel
theorem dX7_judge_10 : decode cX7_judge 10 = .ok (.iconst 0, 1) := by decide +kernel
theorem dX7_judge_11 : decode cX7_judge 11 = .ok (.sipush 1000, 3) := by decide +kernel
theorem dX7_judge_14 : decode cX7_judge 14 = .ok (.iload_n 1, 1) := by decide +kernel
theorem dX7_judge_15 : decode cX7_judge 15 = .ok (.invokestatic 257, 3) := by decide +kernel
theorem dX7_judge_18 : decode cX7_judge 18 = .ok (.iconst 1, 1) := by decide +kernel
theorem dX7_judge_19 : decode cX7_judge 19 = .ok (.isub, 1) := by decide +kernel
theorem dX7_judge_20 : decode cX7_judge 20 = .ok (.invokestatic 93, 3) := by decide +kernel
theorem dX7_judge_23 : decode cX7_judge 23 = .ok (.ifCond .ne 6, 3) := by decide +kernel
theorem dX7_judge_26 : decode cX7_judge 26 = .ok (.bipush (-2), 2) := by decide +kernel
theorem dX7_judge_28 : decode cX7_judge 28 = .ok (.ireturn, 1) := by decide +kernel
theorem dX7_judge_29 : decode cX7_judge 29 = .ok (.aload_n 0, 1) := by decide +kernel
theorem dX7_judge_30 : decode cX7_judge 30 = .ok (.getfield 28, 3) := by decide +kernel
theorem dX7_judge_33 : decode cX7_judge 33 = .ok (.aload_n 0, 1) := by decide +kernel
theorem dX7_judge_34 : decode cX7_judge 34 = .ok (.getfield 31, 3) := by decide +kernel
theorem dX7_judge_37 : decode cX7_judge 37 = .ok (.invokestatic 245, 3) := by decide +kernel
theorem dX7_judge_40 : decode cX7_judge 40 = .ok (.iconst 0, 1) := by decide +kernel
theorem dX7_judge_41 : decode cX7_judge 41 = .ok (.istore_n 3, 1) := by decide +kernel
theorem dX7_judge_42 : decode cX7_judge 42 = .ok (.iload_n 3, 1) := by decide +kernel
theorem dX7_judge_43 : decode cX7_judge 43 = .ok (.iload_n 1, 1) := by decide +kernel
theorem dX7_judge_44 : decode cX7_judge 44 = .ok (.if_icmp .ge 55, 3) := by decide +kernel
theorem dX7_judge_47 : decode cX7_judge 47 = .ok (.iload_n 2, 1) := by decide +kernel
theorem dX7_judge_48 : decode cX7_judge 48 = .ok (.sipush 1000, 3) := by decide +kernel
theorem dX7_judge_51 : decode cX7_judge 51 = .ok (.iload_n 1, 1) := by decide +kernel
theorem dX7_judge_52 : decode cX7_judge 52 = .ok (.iconst 1, 1) := by decide +kernel
theorem dX7_judge_53 : decode cX7_judge 53 = .ok (.isub, 1) := by decide +kernel
theorem dX7_judge_54 : decode cX7_judge 54 = .ok (.iload_n 3, 1) := by decide +kernel
theorem dX7_judge_55 : decode cX7_judge 55 = .ok (.isub, 1) := by decide +kernel
theorem dX7_judge_56 : decode cX7_judge 56 = .ok (.invokestatic 257, 3) := by decide +kernel
theorem dX7_judge_59 : decode cX7_judge 59 = .ok (.idiv, 1) := by decide +kernel
theorem dX7_judge_60 : decode cX7_judge 60 = .ok (.sipush 1000, 3) := by decide +kernel
theorem dX7_judge_63 : decode cX7_judge 63 = .ok (.irem, 1) := by decide +kernel
theorem dX7_judge_64 : decode cX7_judge 64 = .ok (.istore 4, 2) := by decide +kernel
theorem dX7_judge_66 : decode cX7_judge 66 = .ok (.aload_n 0, 1) := by decide +kernel
theorem dX7_judge_67 : decode cX7_judge 67 = .ok (.iload 4, 2) := by decide +kernel
theorem dX7_judge_69 : decode cX7_judge 69 = .ok (.bipush 100, 2) := by decide +kernel
theorem dX7_judge_71 : decode cX7_judge 71 = .ok (.idiv, 1) := by decide +kernel
theorem dX7_judge_72 : decode cX7_judge 72 = .ok (.iload 4, 2) := by decide +kernel
theorem dX7_judge_74 : decode cX7_judge 74 = .ok (.bipush 10, 2) := by decide +kernel
theorem dX7_judge_76 : decode cX7_judge 76 = .ok (.idiv, 1) := by decide +kernel
theorem dX7_judge_77 : decode cX7_judge 77 = .ok (.bipush 10, 2) := by decide +kernel
theorem dX7_judge_79 : decode cX7_judge 79 = .ok (.irem, 1) := by decide +kernel
theorem dX7_judge_80 : decode cX7_judge 80 = .ok (.iload 4, 2) := by decide +kernel
theorem dX7_judge_82 : decode cX7_judge 82 = .ok (.bipush 10, 2) := by decide +kernel
theorem dX7_judge_84 : decode cX7_judge 84 = .ok (.irem, 1) := by decide +kernel
theorem dX7_judge_85 : decode cX7_judge 85 = .ok (.invokevirtual 264, 3) := by decide +kernel
theorem dX7_judge_88 : decode cX7_judge 88 = .ok (.ifCond .ne 5, 3) := by decide +kernel
theorem dX7_judge_91 : decode cX7_judge 91 = .ok (.iload_n 3, 1) := by decide +kernel
theorem dX7_judge_92 : decode cX7_judge 92 = .ok (.ireturn, 1) := by decide +kernel
theorem dX7_judge_93 : decode cX7_judge 93 = .ok (.iinc 3 1, 3) := by decide +kernel
theorem dX7_judge_96 : decode cX7_judge 96 = .ok (.goto (-54), 3) := by decide +kernel
theorem dX7_judge_99 : decode cX7_judge 99 = .ok (.bipush (-9), 2) := by decide +kernel
theorem dX7_judge_101 : decode cX7_judge 101 = .ok (.ireturn, 1) := by decide +kernel
theorem dX7_see_0 : decode cX7_see 0 = .ok (.aload_n 0, 1) := by decide +kernel
theorem dX7_see_1 : decode cX7_see 1 = .ok (.iload_n 1, 1) := by decide +kernel
theorem dX7_see_2 : decode cX7_see 2 = .ok (.invokevirtual 205, 3) := by decide +kernel
theorem dX7_see_5 : decode cX7_see 5 = .ok (.ifCond .ne 5, 3) := by decide +kernel
theorem dX7_see_8 : decode cX7_see 8 = .ok (.iconst (-1), 1) := by decide +kernel
theorem dX7_see_9 : decode cX7_see 9 = .ok (.ireturn, 1) := by decide +kernel
theorem dX7_see_10 : decode cX7_see 10 = .ok (.iload_n 2, 1) := by decide +kernel
theorem dX7_see_11 : decode cX7_see 11 = .ok (.iconst 0, 1) := by decide +kernel
theorem dX7_see_12 : decode cX7_see 12 = .ok (.bipush 20, 2) := by decide +kernel
theorem dX7_see_14 : decode cX7_see 14 = .ok (.invokestatic 93, 3) := by decide +kernel
theorem dX7_see_17 : decode cX7_see 17 = .ok (.ifCond .eq 14, 3) := by decide +kernel
theorem dX7_see_20 : decode cX7_see 20 = .ok (.iload_n 3, 1) := by decide +kernel
theorem dX7_see_21 : decode cX7_see 21 = .ok (.iconst 0, 1) := by decide +kernel
theorem dX7_see_22 : decode cX7_see 22 = .ok (.sipush 999, 3) := by decide +kernel
theorem dX7_see_25 : decode cX7_see 25 = .ok (.invokestatic 93, 3) := by decide +kernel
theorem dX7_see_28 : decode cX7_see 28 = .ok (.ifCond .ne 6, 3) := by decide +kernel
theorem dX7_see_31 : decode cX7_see 31 = .ok (.bipush (-2), 2) := by decide +kernel
theorem dX7_see_33 : decode cX7_see 33 = .ok (.ireturn, 1) := by decide +kernel
theorem dX7_see_34 : decode cX7_see 34 = .ok (.aload_n 0, 1) := by decide +kernel
theorem dX7_see_35 : decode cX7_see 35 = .ok (.getfield 199, 3) := by decide +kernel
theorem dX7_see_38 : decode cX7_see 38 = .ok (.bipush 6, 2) := by decide +kernel
theorem dX7_see_40 : decode cX7_see 40 = .ok (.if_icmp .ne 6, 3) := by decide +kernel
theorem dX7_see_43 : decode cX7_see 43 = .ok (.bipush (-4), 2) := by decide +kernel
theorem dX7_see_45 : decode cX7_see 45 = .ok (.ireturn, 1) := by decide +kernel
theorem dX7_see_46 : decode cX7_see 46 = .ok (.aload_n 0, 1) := by decide +kernel
theorem dX7_see_47 : decode cX7_see 47 = .ok (.getfield 44, 3) := by decide +kernel
theorem dX7_see_50 : decode cX7_see 50 = .ok (.aload_n 0, 1) := by decide +kernel
theorem dX7_see_51 : decode cX7_see 51 = .ok (.getfield 199, 3) := by decide +kernel
theorem dX7_see_54 : decode cX7_see 54 = .ok (.iload_n 1, 1) := by decide +kernel
theorem dX7_see_55 : decode cX7_see 55 = .ok (.iastore, 1) := by decide +kernel
theorem dX7_see_56 : decode cX7_see 56 = .ok (.aload_n 0, 1) := by decide +kernel
theorem dX7_see_57 : decode cX7_see 57 = .ok (.getfield 47, 3) := by decide +kernel
theorem dX7_see_60 : decode cX7_see 60 = .ok (.aload_n 0, 1) := by decide +kernel
theorem dX7_see_61 : decode cX7_see 61 = .ok (.getfield 199, 3) := by decide +kernel
theorem dX7_see_64 : decode cX7_see 64 = .ok (.iload_n 2, 1) := by decide +kernel
theorem dX7_see_65 : decode cX7_see 65 = .ok (.iastore, 1) := by decide +kernel
theorem dX7_see_66 : decode cX7_see 66 = .ok (.aload_n 0, 1) := by decide +kernel
theorem dX7_see_67 : decode cX7_see 67 = .ok (.getfield 50, 3) := by decide +kernel
theorem dX7_see_70 : decode cX7_see 70 = .ok (.aload_n 0, 1) := by decide +kernel
theorem dX7_see_71 : decode cX7_see 71 = .ok (.getfield 199, 3) := by decide +kernel
theorem dX7_see_74 : decode cX7_see 74 = .ok (.iload_n 3, 1) := by decide +kernel
theorem dX7_see_75 : decode cX7_see 75 = .ok (.iastore, 1) := by decide +kernel
theorem dX7_see_76 : decode cX7_see 76 = .ok (.aload_n 0, 1) := by decide +kernel
theorem dX7_see_77 : decode cX7_see 77 = .ok (.dup, 1) := by decide +kernel
theorem dX7_see_78 : decode cX7_see 78 = .ok (.getfield 199, 3) := by decide +kernel
theorem dX7_see_81 : decode cX7_see 81 = .ok (.iconst 1, 1) := by decide +kernel
theorem dX7_see_82 : decode cX7_see 82 = .ok (.iadd, 1) := by decide +kernel
theorem dX7_see_83 : decode cX7_see 83 = .ok (.putfield 199, 3) := by decide +kernel
theorem dX7_see_86 : decode cX7_see 86 = .ok (.aload_n 0, 1) := by decide +kernel
theorem dX7_see_87 : decode cX7_see 87 = .ok (.getfield 199, 3) := by decide +kernel
theorem dX7_see_90 : decode cX7_see 90 = .ok (.ireturn, 1) := by decide +kernel
theorem dX7_unsee_0 : decode cX7_unsee 0 = .ok (.aload_n 0, 1) := by decide +kernel
theorem dX7_unsee_1 : decode cX7_unsee 1 = .ok (.getfield 199, 3) := by decide +kernel
theorem dX7_unsee_4 : decode cX7_unsee 4 = .ok (.istore_n 1, 1) := by decide +kernel
theorem dX7_unsee_5 : decode cX7_unsee 5 = .ok (.aload_n 0, 1) := by decide +kernel
theorem dX7_unsee_6 : decode cX7_unsee 6 = .ok (.iconst 0, 1) := by decide +kernel
theorem dX7_unsee_7 : decode cX7_unsee 7 = .ok (.putfield 199, 3) := by decide +kernel
theorem dX7_unsee_10 : decode cX7_unsee 10 = .ok (.iload_n 1, 1) := by decide +kernel
theorem dX7_unsee_11 : decode cX7_unsee 11 = .ok (.ireturn, 1) := by decide +kernel
theorem dX7_isSoBy_0 : decode cX7_isSoBy 0 = .ok (.aload_n 0, 1) := by decide +kernel
theorem dX7_isSoBy_1 : decode cX7_isSoBy 1 = .ok (.aload_n 0, 1) := by decide +kernel
theorem dX7_isSoBy_2 : decode cX7_isSoBy 2 = .ok (.getfield 44, 3) := by decide +kernel
theorem dX7_isSoBy_5 : decode cX7_isSoBy 5 = .ok (.iload_n 2, 1) := by decide +kernel
theorem dX7_isSoBy_6 : decode cX7_isSoBy 6 = .ok (.iaload, 1) := by decide +kernel
theorem dX7_isSoBy_7 : decode cX7_isSoBy 7 = .ok (.invokevirtual 205, 3) := by decide +kernel
theorem dX7_isSoBy_10 : decode cX7_isSoBy 10 = .ok (.ifCond .ne 5, 3) := by decide +kernel
theorem dX7_isSoBy_13 : decode cX7_isSoBy 13 = .ok (.iconst 1, 1) := by decide +kernel
theorem dX7_isSoBy_14 : decode cX7_isSoBy 14 = .ok (.ireturn, 1) := by decide +kernel
theorem dX7_isSoBy_15 : decode cX7_isSoBy 15 = .ok (.aload_n 0, 1) := by decide +kernel
theorem dX7_isSoBy_16 : decode cX7_isSoBy 16 = .ok (.iload_n 1, 1) := by decide +kernel
theorem dX7_isSoBy_17 : decode cX7_isSoBy 17 = .ok (.putfield 84, 3) := by decide +kernel
theorem dX7_isSoBy_20 : decode cX7_isSoBy 20 = .ok (.aload_n 0, 1) := by decide +kernel
theorem dX7_isSoBy_21 : decode cX7_isSoBy 21 = .ok (.getfield 28, 3) := by decide +kernel
theorem dX7_isSoBy_24 : decode cX7_isSoBy 24 = .ok (.aload_n 0, 1) := by decide +kernel
theorem dX7_isSoBy_25 : decode cX7_isSoBy 25 = .ok (.getfield 31, 3) := by decide +kernel
theorem dX7_isSoBy_28 : decode cX7_isSoBy 28 = .ok (.invokestatic 245, 3) := by decide +kernel
theorem dX7_isSoBy_31 : decode cX7_isSoBy 31 = .ok (.aload_n 0, 1) := by decide +kernel
theorem dX7_isSoBy_32 : decode cX7_isSoBy 32 = .ok (.aload_n 0, 1) := by decide +kernel
theorem dX7_isSoBy_33 : decode cX7_isSoBy 33 = .ok (.getfield 47, 3) := by decide +kernel
theorem dX7_isSoBy_36 : decode cX7_isSoBy 36 = .ok (.iload_n 2, 1) := by decide +kernel
theorem dX7_isSoBy_37 : decode cX7_isSoBy 37 = .ok (.iaload, 1) := by decide +kernel
theorem dX7_isSoBy_38 : decode cX7_isSoBy 38 = .ok (.bipush 15, 2) := by decide +kernel
theorem dX7_isSoBy_40 : decode cX7_isSoBy 40 = .ok (.invokevirtual 249, 3) := by decide +kernel
theorem dX7_isSoBy_43 : decode cX7_isSoBy 43 = .ok (.aload_n 0, 1) := by decide +kernel
theorem dX7_isSoBy_44 : decode cX7_isSoBy 44 = .ok (.bipush (-9), 2) := by decide +kernel
theorem dX7_isSoBy_46 : decode cX7_isSoBy 46 = .ok (.putfield 84, 3) := by decide +kernel
theorem dX7_isSoBy_49 : decode cX7_isSoBy 49 = .ok (.aload_n 0, 1) := by decide +kernel
theorem dX7_isSoBy_50 : decode cX7_isSoBy 50 = .ok (.getfield 31, 3) := by decide +kernel
theorem dX7_isSoBy_53 : decode cX7_isSoBy 53 = .ok (.bipush 24, 2) := by decide +kernel
theorem dX7_isSoBy_55 : decode cX7_isSoBy 55 = .ok (.aload_n 0, 1) := by decide +kernel
theorem dX7_isSoBy_56 : decode cX7_isSoBy 56 = .ok (.getfield 44, 3) := by decide +kernel
theorem dX7_isSoBy_59 : decode cX7_isSoBy 59 = .ok (.iload_n 2, 1) := by decide +kernel
theorem dX7_isSoBy_60 : decode cX7_isSoBy 60 = .ok (.iaload, 1) := by decide +kernel
theorem dX7_isSoBy_61 : decode cX7_isSoBy 61 = .ok (.iadd, 1) := by decide +kernel
theorem dX7_isSoBy_62 : decode cX7_isSoBy 62 = .ok (.iaload, 1) := by decide +kernel
theorem dX7_isSoBy_63 : decode cX7_isSoBy 63 = .ok (.aload_n 0, 1) := by decide +kernel
theorem dX7_isSoBy_64 : decode cX7_isSoBy 64 = .ok (.getfield 50, 3) := by decide +kernel
theorem dX7_isSoBy_67 : decode cX7_isSoBy 67 = .ok (.iload_n 2, 1) := by decide +kernel
theorem dX7_isSoBy_68 : decode cX7_isSoBy 68 = .ok (.iaload, 1) := by decide +kernel
theorem dX7_isSoBy_69 : decode cX7_isSoBy 69 = .ok (.if_icmp .ne 7, 3) := by decide +kernel
theorem dX7_isSoBy_72 : decode cX7_isSoBy 72 = .ok (.iconst 1, 1) := by decide +kernel
theorem dX7_isSoBy_73 : decode cX7_isSoBy 73 = .ok (.goto 4, 3) := by decide +kernel
theorem dX7_isSoBy_76 : decode cX7_isSoBy 76 = .ok (.iconst 0, 1) := by decide +kernel
theorem dX7_isSoBy_77 : decode cX7_isSoBy 77 = .ok (.ireturn, 1) := by decide +kernel
theorem dX7_which_0 : decode cX7_which 0 = .ok (.iconst 0, 1) := by decide +kernel
theorem dX7_which_1 : decode cX7_which 1 = .ok (.istore_n 1, 1) := by decide +kernel
theorem dX7_which_2 : decode cX7_which 2 = .ok (.iconst 0, 1) := by decide +kernel
theorem dX7_which_3 : decode cX7_which 3 = .ok (.istore_n 2, 1) := by decide +kernel
theorem dX7_which_4 : decode cX7_which 4 = .ok (.iload_n 2, 1) := by decide +kernel
theorem dX7_which_5 : decode cX7_which 5 = .ok (.aload_n 0, 1) := by decide +kernel
theorem dX7_which_6 : decode cX7_which 6 = .ok (.getfield 97, 3) := by decide +kernel
theorem dX7_which_9 : decode cX7_which 9 = .ok (.if_icmp .ge 63, 3) := by decide +kernel
theorem dX7_which_12 : decode cX7_which 12 = .ok (.iconst 1, 1) := by decide +kernel
theorem dX7_which_13 : decode cX7_which 13 = .ok (.istore_n 3, 1) := by decide +kernel
theorem dX7_which_14 : decode cX7_which 14 = .ok (.iconst 0, 1) := by decide +kernel
theorem dX7_which_15 : decode cX7_which 15 = .ok (.istore 4, 2) := by decide +kernel
theorem dX7_which_17 : decode cX7_which 17 = .ok (.iload 4, 2) := by decide +kernel
theorem dX7_which_19 : decode cX7_which 19 = .ok (.aload_n 0, 1) := by decide +kernel
theorem dX7_which_20 : decode cX7_which 20 = .ok (.getfield 199, 3) := by decide +kernel
theorem dX7_which_23 : decode cX7_which 23 = .ok (.if_icmp .ge 29, 3) := by decide +kernel
theorem dX7_which_26 : decode cX7_which 26 = .ok (.iload_n 3, 1) := by decide +kernel
theorem dX7_which_27 : decode cX7_which 27 = .ok (.ifCond .eq 17, 3) := by decide +kernel
theorem dX7_which_30 : decode cX7_which 30 = .ok (.aload_n 0, 1) := by decide +kernel
theorem dX7_which_31 : decode cX7_which 31 = .ok (.iload_n 2, 1) := by decide +kernel
theorem dX7_which_32 : decode cX7_which 32 = .ok (.iload 4, 2) := by decide +kernel
theorem dX7_which_34 : decode cX7_which 34 = .ok (.invokevirtual 267, 3) := by decide +kernel
theorem dX7_which_37 : decode cX7_which 37 = .ok (.ifCond .eq 7, 3) := by decide +kernel
theorem dX7_which_40 : decode cX7_which 40 = .ok (.iconst 1, 1) := by decide +kernel
theorem dX7_which_41 : decode cX7_which 41 = .ok (.goto 4, 3) := by decide +kernel
theorem dX7_which_44 : decode cX7_which 44 = .ok (.iconst 0, 1) := by decide +kernel
theorem dX7_which_45 : decode cX7_which 45 = .ok (.istore_n 3, 1) := by decide +kernel
theorem dX7_which_46 : decode cX7_which 46 = .ok (.iinc 4 1, 3) := by decide +kernel
theorem dX7_which_49 : decode cX7_which 49 = .ok (.goto (-32), 3) := by decide +kernel
theorem dX7_which_52 : decode cX7_which 52 = .ok (.iload_n 1, 1) := by decide +kernel
theorem dX7_which_53 : decode cX7_which 53 = .ok (.iload_n 3, 1) := by decide +kernel
theorem dX7_which_54 : decode cX7_which 54 = .ok (.ifCond .eq 9, 3) := by decide +kernel
theorem dX7_which_57 : decode cX7_which 57 = .ok (.iconst 1, 1) := by decide +kernel
theorem dX7_which_58 : decode cX7_which 58 = .ok (.iload_n 2, 1) := by decide +kernel
theorem dX7_which_59 : decode cX7_which 59 = .ok (.ishl, 1) := by decide +kernel
theorem dX7_which_60 : decode cX7_which 60 = .ok (.goto 4, 3) := by decide +kernel
theorem dX7_which_63 : decode cX7_which 63 = .ok (.iconst 0, 1) := by decide +kernel
theorem dX7_which_64 : decode cX7_which 64 = .ok (.ior, 1) := by decide +kernel
theorem dX7_which_65 : decode cX7_which 65 = .ok (.istore_n 1, 1) := by decide +kernel
theorem dX7_which_66 : decode cX7_which 66 = .ok (.iinc 2 1, 3) := by decide +kernel
theorem dX7_which_69 : decode cX7_which 69 = .ok (.goto (-65), 3) := by decide +kernel
theorem dX7_which_72 : decode cX7_which 72 = .ok (.iload_n 1, 1) := by decide +kernel
theorem dX7_which_73 : decode cX7_which 73 = .ok (.ireturn, 1) := by decide +kernel
theorem dX7_metersBy_0 : decode cX7_metersBy 0 = .ok (.aload_n 0, 1) := by decide +kernel
theorem dX7_metersBy_1 : decode cX7_metersBy 1 = .ok (.iload_n 1, 1) := by decide +kernel
theorem dX7_metersBy_2 : decode cX7_metersBy 2 = .ok (.putfield 81, 3) := by decide +kernel
theorem dX7_metersBy_5 : decode cX7_metersBy 5 = .ok (.aload_n 0, 1) := by decide +kernel
theorem dX7_metersBy_6 : decode cX7_metersBy 6 = .ok (.getfield 28, 3) := by decide +kernel
theorem dX7_metersBy_9 : decode cX7_metersBy 9 = .ok (.aload_n 0, 1) := by decide +kernel
theorem dX7_metersBy_10 : decode cX7_metersBy 10 = .ok (.getfield 31, 3) := by decide +kernel
theorem dX7_metersBy_13 : decode cX7_metersBy 13 = .ok (.invokestatic 245, 3) := by decide +kernel
theorem dX7_metersBy_16 : decode cX7_metersBy 16 = .ok (.aload_n 0, 1) := by decide +kernel
theorem dX7_metersBy_17 : decode cX7_metersBy 17 = .ok (.bipush 20, 2) := by decide +kernel
theorem dX7_metersBy_19 : decode cX7_metersBy 19 = .ok (.bipush 15, 2) := by decide +kernel
theorem dX7_metersBy_21 : decode cX7_metersBy 21 = .ok (.invokevirtual 249, 3) := by decide +kernel
theorem dX7_metersBy_24 : decode cX7_metersBy 24 = .ok (.aload_n 0, 1) := by decide +kernel
theorem dX7_metersBy_25 : decode cX7_metersBy 25 = .ok (.bipush 15, 2) := by decide +kernel
theorem dX7_metersBy_27 : decode cX7_metersBy 27 = .ok (.putfield 81, 3) := by decide +kernel
theorem dX7_metersBy_30 : decode cX7_metersBy 30 = .ok (.aload_n 0, 1) := by decide +kernel
theorem dX7_metersBy_31 : decode cX7_metersBy 31 = .ok (.aload_n 0, 1) := by decide +kernel
theorem dX7_metersBy_32 : decode cX7_metersBy 32 = .ok (.getfield 31, 3) := by decide +kernel
theorem dX7_metersBy_35 : decode cX7_metersBy 35 = .ok (.invokevirtual 192, 3) := by decide +kernel
theorem dX7_metersBy_38 : decode cX7_metersBy 38 = .ok (.ireturn, 1) := by decide +kernel
theorem dX7_share_0 : decode cX7_share 0 = .ok (.aload_n 0, 1) := by decide +kernel
theorem dX7_share_1 : decode cX7_share 1 = .ok (.iload_n 1, 1) := by decide +kernel
theorem dX7_share_2 : decode cX7_share 2 = .ok (.invokevirtual 205, 3) := by decide +kernel
theorem dX7_share_5 : decode cX7_share 5 = .ok (.ifCond .ne 5, 3) := by decide +kernel
theorem dX7_share_8 : decode cX7_share 8 = .ok (.iconst (-1), 1) := by decide +kernel
theorem dX7_share_9 : decode cX7_share 9 = .ok (.ireturn, 1) := by decide +kernel
theorem dX7_share_10 : decode cX7_share 10 = .ok (.iconst 0, 1) := by decide +kernel
theorem dX7_share_11 : decode cX7_share 11 = .ok (.istore_n 3, 1) := by decide +kernel
theorem dX7_share_12 : decode cX7_share 12 = .ok (.iload_n 3, 1) := by decide +kernel
theorem dX7_share_13 : decode cX7_share 13 = .ok (.iconst 1, 1) := by decide +kernel
theorem dX7_share_14 : decode cX7_share 14 = .ok (.aload_n 0, 1) := by decide +kernel
theorem dX7_share_15 : decode cX7_share 15 = .ok (.getfield 90, 3) := by decide +kernel
theorem dX7_share_18 : decode cX7_share 18 = .ok (.ishl, 1) := by decide +kernel
theorem dX7_share_19 : decode cX7_share 19 = .ok (.if_icmp .ge 20, 3) := by decide +kernel
theorem dX7_share_22 : decode cX7_share 22 = .ok (.aload_n 0, 1) := by decide +kernel
theorem dX7_share_23 : decode cX7_share 23 = .ok (.getfield 59, 3) := by decide +kernel
theorem dX7_share_26 : decode cX7_share 26 = .ok (.iload_n 3, 1) := by decide +kernel
theorem dX7_share_27 : decode cX7_share 27 = .ok (.aload_n 0, 1) := by decide +kernel
theorem dX7_share_28 : decode cX7_share 28 = .ok (.iload_n 3, 1) := by decide +kernel
theorem dX7_share_29 : decode cX7_share 29 = .ok (.invokevirtual 270, 3) := by decide +kernel
theorem dX7_share_32 : decode cX7_share 32 = .ok (.iastore, 1) := by decide +kernel
theorem dX7_share_33 : decode cX7_share 33 = .ok (.iinc 3 1, 3) := by decide +kernel
theorem dX7_share_36 : decode cX7_share 36 = .ok (.goto (-24), 3) := by decide +kernel
theorem dX7_share_39 : decode cX7_share 39 = .ok (.iconst 0, 1) := by decide +kernel
theorem dX7_share_40 : decode cX7_share 40 = .ok (.istore_n 3, 1) := by decide +kernel
theorem dX7_share_41 : decode cX7_share 41 = .ok (.iconst 0, 1) := by decide +kernel
theorem dX7_share_42 : decode cX7_share 42 = .ok (.istore 4, 2) := by decide +kernel
theorem dX7_share_44 : decode cX7_share 44 = .ok (.iload 4, 2) := by decide +kernel
theorem dX7_share_46 : decode cX7_share 46 = .ok (.iconst 1, 1) := by decide +kernel
theorem dX7_share_47 : decode cX7_share 47 = .ok (.aload_n 0, 1) := by decide +kernel
theorem dX7_share_48 : decode cX7_share 48 = .ok (.getfield 90, 3) := by decide +kernel
theorem dX7_share_51 : decode cX7_share 51 = .ok (.ishl, 1) := by decide +kernel
theorem dX7_share_52 : decode cX7_share 52 = .ok (.if_icmp .ge 66, 3) := by decide +kernel
theorem dX7_share_55 : decode cX7_share 55 = .ok (.iload 4, 2) := by decide +kernel
theorem dX7_share_57 : decode cX7_share 57 = .ok (.iload_n 1, 1) := by decide +kernel
theorem dX7_share_58 : decode cX7_share 58 = .ok (.invokestatic 149, 3) := by decide +kernel
theorem dX7_share_61 : decode cX7_share 61 = .ok (.ifCond .ne 51, 3) := by decide +kernel
theorem dX7_share_64 : decode cX7_share 64 = .ok (.iload 4, 2) := by decide +kernel
theorem dX7_share_66 : decode cX7_share 66 = .ok (.invokestatic 242, 3) := by decide +kernel
theorem dX7_share_69 : decode cX7_share 69 = .ok (.istore 5, 2) := by decide +kernel
theorem dX7_share_71 : decode cX7_share 71 = .ok (.iload_n 3, 1) := by decide +kernel
theorem dX7_share_72 : decode cX7_share 72 = .ok (.iload 5, 2) := by decide +kernel
theorem dX7_share_74 : decode cX7_share 74 = .ok (.invokestatic 273, 3) := by decide +kernel
theorem dX7_share_77 : decode cX7_share 77 = .ok (.aload_n 0, 1) := by decide +kernel
theorem dX7_share_78 : decode cX7_share 78 = .ok (.getfield 90, 3) := by decide +kernel
theorem dX7_share_81 : decode cX7_share 81 = .ok (.iconst 1, 1) := by decide +kernel
theorem dX7_share_82 : decode cX7_share 82 = .ok (.isub, 1) := by decide +kernel
theorem dX7_share_83 : decode cX7_share 83 = .ok (.iload 5, 2) := by decide +kernel
theorem dX7_share_85 : decode cX7_share 85 = .ok (.isub, 1) := by decide +kernel
theorem dX7_share_86 : decode cX7_share 86 = .ok (.invokestatic 273, 3) := by decide +kernel
theorem dX7_share_89 : decode cX7_share 89 = .ok (.imul, 1) := by decide +kernel
theorem dX7_share_90 : decode cX7_share 90 = .ok (.aload_n 0, 1) := by decide +kernel
theorem dX7_share_91 : decode cX7_share 91 = .ok (.getfield 59, 3) := by decide +kernel
theorem dX7_share_94 : decode cX7_share 94 = .ok (.iload 4, 2) := by decide +kernel
theorem dX7_share_96 : decode cX7_share 96 = .ok (.iconst 1, 1) := by decide +kernel
theorem dX7_share_97 : decode cX7_share 97 = .ok (.iload_n 1, 1) := by decide +kernel
theorem dX7_share_98 : decode cX7_share 98 = .ok (.ishl, 1) := by decide +kernel
theorem dX7_share_99 : decode cX7_share 99 = .ok (.ior, 1) := by decide +kernel
theorem dX7_share_100 : decode cX7_share 100 = .ok (.iaload, 1) := by decide +kernel
theorem dX7_share_101 : decode cX7_share 101 = .ok (.aload_n 0, 1) := by decide +kernel
theorem dX7_share_102 : decode cX7_share 102 = .ok (.getfield 59, 3) := by decide +kernel
theorem dX7_share_105 : decode cX7_share 105 = .ok (.iload 4, 2) := by decide +kernel
theorem dX7_share_107 : decode cX7_share 107 = .ok (.iaload, 1) := by decide +kernel
theorem dX7_share_108 : decode cX7_share 108 = .ok (.isub, 1) := by decide +kernel
theorem dX7_share_109 : decode cX7_share 109 = .ok (.imul, 1) := by decide +kernel
theorem dX7_share_110 : decode cX7_share 110 = .ok (.iadd, 1) := by decide +kernel
theorem dX7_share_111 : decode cX7_share 111 = .ok (.istore_n 3, 1) := by decide +kernel
theorem dX7_share_112 : decode cX7_share 112 = .ok (.iinc 4 1, 3) := by decide +kernel
theorem dX7_share_115 : decode cX7_share 115 = .ok (.goto (-71), 3) := by decide +kernel
theorem dX7_share_118 : decode cX7_share 118 = .ok (.iload_n 3, 1) := by decide +kernel
theorem dX7_share_119 : decode cX7_share 119 = .ok (.aload_n 0, 1) := by decide +kernel
theorem dX7_share_120 : decode cX7_share 120 = .ok (.getfield 90, 3) := by decide +kernel
theorem dX7_share_123 : decode cX7_share 123 = .ok (.invokestatic 273, 3) := by decide +kernel
theorem dX7_share_126 : decode cX7_share 126 = .ok (.iload_n 2, 1) := by decide +kernel
theorem dX7_share_127 : decode cX7_share 127 = .ok (.invokestatic 276, 3) := by decide +kernel
theorem dX7_share_130 : decode cX7_share 130 = .ok (.ireturn, 1) := by decide +kernel
theorem dX7_chance_0 : decode cX7_chance 0 = .ok (.iload_n 1, 1) := by decide +kernel
theorem dX7_chance_1 : decode cX7_chance 1 = .ok (.iconst 1, 1) := by decide +kernel
theorem dX7_chance_2 : decode cX7_chance 2 = .ok (.bipush 9, 2) := by decide +kernel
theorem dX7_chance_4 : decode cX7_chance 4 = .ok (.invokestatic 93, 3) := by decide +kernel
theorem dX7_chance_7 : decode cX7_chance 7 = .ok (.ifCond .eq 13, 3) := by decide +kernel
theorem dX7_chance_10 : decode cX7_chance 10 = .ok (.iload_n 2, 1) := by decide +kernel
theorem dX7_chance_11 : decode cX7_chance 11 = .ok (.iconst 0, 1) := by decide +kernel
theorem dX7_chance_12 : decode cX7_chance 12 = .ok (.bipush 10, 2) := by decide +kernel
theorem dX7_chance_14 : decode cX7_chance 14 = .ok (.invokestatic 93, 3) := by decide +kernel
theorem dX7_chance_17 : decode cX7_chance 17 = .ok (.ifCond .ne 6, 3) := by decide +kernel
theorem dX7_chance_20 : decode cX7_chance 20 = .ok (.bipush (-2), 2) := by decide +kernel
theorem dX7_chance_22 : decode cX7_chance 22 = .ok (.ireturn, 1) := by decide +kernel
theorem dX7_chance_23 : decode cX7_chance 23 = .ok (.iconst 0, 1) := by decide +kernel
theorem dX7_chance_24 : decode cX7_chance 24 = .ok (.istore 4, 2) := by decide +kernel
theorem dX7_chance_26 : decode cX7_chance 26 = .ok (.iconst 0, 1) := by decide +kernel
theorem dX7_chance_27 : decode cX7_chance 27 = .ok (.istore 5, 2) := by decide +kernel
theorem dX7_chance_29 : decode cX7_chance 29 = .ok (.iload 5, 2) := by decide +kernel
theorem dX7_chance_31 : decode cX7_chance 31 = .ok (.iconst 1, 1) := by decide +kernel
theorem dX7_chance_32 : decode cX7_chance 32 = .ok (.aload_n 0, 1) := by decide +kernel
theorem dX7_chance_33 : decode cX7_chance 33 = .ok (.getfield 90, 3) := by decide +kernel
theorem dX7_chance_36 : decode cX7_chance 36 = .ok (.ishl, 1) := by decide +kernel
theorem dX7_chance_37 : decode cX7_chance 37 = .ok (.if_icmp .ge 80, 3) := by decide +kernel
theorem dX7_chance_40 : decode cX7_chance 40 = .ok (.aload_n 0, 1) := by decide +kernel
theorem dX7_chance_41 : decode cX7_chance 41 = .ok (.getfield 28, 3) := by decide +kernel
theorem dX7_chance_44 : decode cX7_chance 44 = .ok (.aload_n 0, 1) := by decide +kernel
theorem dX7_chance_45 : decode cX7_chance 45 = .ok (.getfield 31, 3) := by decide +kernel
theorem dX7_chance_48 : decode cX7_chance 48 = .ok (.invokestatic 245, 3) := by decide +kernel
theorem dX7_chance_51 : decode cX7_chance 51 = .ok (.aload_n 0, 1) := by decide +kernel
theorem dX7_chance_52 : decode cX7_chance 52 = .ok (.iload_n 1, 1) := by decide +kernel
theorem dX7_chance_53 : decode cX7_chance 53 = .ok (.bipush 15, 2) := by decide +kernel
theorem dX7_chance_55 : decode cX7_chance 55 = .ok (.iload 5, 2) := by decide +kernel
theorem dX7_chance_57 : decode cX7_chance 57 = .ok (.iconst (-1), 1) := by decide +kernel
theorem dX7_chance_58 : decode cX7_chance 58 = .ok (.ixor, 1) := by decide +kernel
theorem dX7_chance_59 : decode cX7_chance 59 = .ok (.iand, 1) := by decide +kernel
theorem dX7_chance_60 : decode cX7_chance 60 = .ok (.invokevirtual 249, 3) := by decide +kernel
theorem dX7_chance_63 : decode cX7_chance 63 = .ok (.iload 4, 2) := by decide +kernel
theorem dX7_chance_65 : decode cX7_chance 65 = .ok (.aload_n 0, 1) := by decide +kernel
theorem dX7_chance_66 : decode cX7_chance 66 = .ok (.aload_n 0, 1) := by decide +kernel
theorem dX7_chance_67 : decode cX7_chance 67 = .ok (.getfield 31, 3) := by decide +kernel
theorem dX7_chance_70 : decode cX7_chance 70 = .ok (.iconst 4, 1) := by decide +kernel
theorem dX7_chance_71 : decode cX7_chance 71 = .ok (.invokevirtual 189, 3) := by decide +kernel
theorem dX7_chance_74 : decode cX7_chance 74 = .ok (.ifCond .ne 33, 3) := by decide +kernel
theorem dX7_chance_77 : decode cX7_chance 77 = .ok (.iload_n 2, 1) := by decide +kernel
theorem dX7_chance_78 : decode cX7_chance 78 = .ok (.iload 5, 2) := by decide +kernel
theorem dX7_chance_80 : decode cX7_chance 80 = .ok (.invokestatic 242, 3) := by decide +kernel
theorem dX7_chance_83 : decode cX7_chance 83 = .ok (.invokestatic 257, 3) := by decide +kernel
theorem dX7_chance_86 : decode cX7_chance 86 = .ok (.bipush 10, 2) := by decide +kernel
theorem dX7_chance_88 : decode cX7_chance 88 = .ok (.iload_n 2, 1) := by decide +kernel
theorem dX7_chance_89 : decode cX7_chance 89 = .ok (.isub, 1) := by decide +kernel
theorem dX7_chance_90 : decode cX7_chance 90 = .ok (.aload_n 0, 1) := by decide +kernel
theorem dX7_chance_91 : decode cX7_chance 91 = .ok (.getfield 90, 3) := by decide +kernel
theorem dX7_chance_94 : decode cX7_chance 94 = .ok (.iload 5, 2) := by decide +kernel
theorem dX7_chance_96 : decode cX7_chance 96 = .ok (.invokestatic 242, 3) := by decide +kernel
theorem dX7_chance_99 : decode cX7_chance 99 = .ok (.isub, 1) := by decide +kernel
theorem dX7_chance_100 : decode cX7_chance 100 = .ok (.invokestatic 257, 3) := by decide +kernel
theorem dX7_chance_103 : decode cX7_chance 103 = .ok (.imul, 1) := by decide +kernel
theorem dX7_chance_104 : decode cX7_chance 104 = .ok (.goto 4, 3) := by decide +kernel
theorem dX7_chance_107 : decode cX7_chance 107 = .ok (.iconst 0, 1) := by decide +kernel
theorem dX7_chance_108 : decode cX7_chance 108 = .ok (.iadd, 1) := by decide +kernel
theorem dX7_chance_109 : decode cX7_chance 109 = .ok (.istore 4, 2) := by decide +kernel
theorem dX7_chance_111 : decode cX7_chance 111 = .ok (.iinc 5 1, 3) := by decide +kernel
theorem dX7_chance_114 : decode cX7_chance 114 = .ok (.goto (-85), 3) := by decide +kernel
theorem dX7_chance_117 : decode cX7_chance 117 = .ok (.iload 4, 2) := by decide +kernel
theorem dX7_chance_119 : decode cX7_chance 119 = .ok (.bipush 10, 2) := by decide +kernel
theorem dX7_chance_121 : decode cX7_chance 121 = .ok (.aload_n 0, 1) := by decide +kernel
theorem dX7_chance_122 : decode cX7_chance 122 = .ok (.getfield 90, 3) := by decide +kernel
theorem dX7_chance_125 : decode cX7_chance 125 = .ok (.invokestatic 257, 3) := by decide +kernel
theorem dX7_chance_128 : decode cX7_chance 128 = .ok (.iload_n 3, 1) := by decide +kernel
theorem dX7_chance_129 : decode cX7_chance 129 = .ok (.invokestatic 276, 3) := by decide +kernel
theorem dX7_chance_132 : decode cX7_chance 132 = .ok (.ireturn, 1) := by decide +kernel
theorem dX7_seed_0 : decode cX7_seed 0 = .ok (.aload_n 0, 1) := by decide +kernel
theorem dX7_seed_1 : decode cX7_seed 1 = .ok (.getfield 280, 3) := by decide +kernel
theorem dX7_seed_4 : decode cX7_seed 4 = .ok (.lstore_n 3, 1) := by decide +kernel
theorem dX7_seed_5 : decode cX7_seed 5 = .ok (.aload_n 0, 1) := by decide +kernel
theorem dX7_seed_6 : decode cX7_seed 6 = .ok (.lload_n 1, 1) := by decide +kernel
theorem dX7_seed_7 : decode cX7_seed 7 = .ok (.putfield 280, 3) := by decide +kernel
theorem dX7_seed_10 : decode cX7_seed 10 = .ok (.lload_n 3, 1) := by decide +kernel
theorem dX7_seed_11 : decode cX7_seed 11 = .ok (.lreturn, 1) := by decide +kernel
theorem dX7_drawn_0 : decode cX7_drawn 0 = .ok (.iload_n 1, 1) := by decide +kernel
theorem dX7_drawn_1 : decode cX7_drawn 1 = .ok (.iconst 1, 1) := by decide +kernel
theorem dX7_drawn_2 : decode cX7_drawn 2 = .ok (.bipush 20, 2) := by decide +kernel
theorem dX7_drawn_4 : decode cX7_drawn 4 = .ok (.invokestatic 93, 3) := by decide +kernel
theorem dX7_drawn_7 : decode cX7_drawn 7 = .ok (.ifCond .ne 6, 3) := by decide +kernel
theorem dX7_drawn_10 : decode cX7_drawn 10 = .ok (.bipush (-2), 2) := by decide +kernel
theorem dX7_drawn_12 : decode cX7_drawn 12 = .ok (.ireturn, 1) := by decide +kernel
theorem dX7_drawn_13 : decode cX7_drawn 13 = .ok (.aload_n 0, 1) := by decide +kernel
theorem dX7_drawn_14 : decode cX7_drawn 14 = .ok (.getfield 28, 3) := by decide +kernel
theorem dX7_drawn_17 : decode cX7_drawn 17 = .ok (.aload_n 0, 1) := by decide +kernel
theorem dX7_drawn_18 : decode cX7_drawn 18 = .ok (.getfield 31, 3) := by decide +kernel
theorem dX7_drawn_21 : decode cX7_drawn 21 = .ok (.invokestatic 245, 3) := by decide +kernel
theorem dX7_drawn_24 : decode cX7_drawn 24 = .ok (.iconst 0, 1) := by decide +kernel
theorem dX7_drawn_25 : decode cX7_drawn 25 = .ok (.istore_n 2, 1) := by decide +kernel
theorem dX7_drawn_26 : decode cX7_drawn 26 = .ok (.iconst 0, 1) := by decide +kernel
theorem dX7_drawn_27 : decode cX7_drawn 27 = .ok (.istore_n 3, 1) := by decide +kernel
theorem dX7_drawn_28 : decode cX7_drawn 28 = .ok (.iload_n 3, 1) := by decide +kernel
theorem dX7_drawn_29 : decode cX7_drawn 29 = .ok (.iload_n 1, 1) := by decide +kernel
theorem dX7_drawn_30 : decode cX7_drawn 30 = .ok (.if_icmp .ge 114, 3) := by decide +kernel
theorem dX7_drawn_33 : decode cX7_drawn 33 = .ok (.aload_n 0, 1) := by decide +kernel
theorem dX7_drawn_34 : decode cX7_drawn 34 = .ok (.aload_n 0, 1) := by decide +kernel
theorem dX7_drawn_35 : decode cX7_drawn 35 = .ok (.getfield 280, 3) := by decide +kernel
theorem dX7_drawn_38 : decode cX7_drawn 38 = .ok (.ldc2_w 284, 3) := by decide +kernel
theorem dX7_drawn_41 : decode cX7_drawn 41 = .ok (.lmul, 1) := by decide +kernel
theorem dX7_drawn_42 : decode cX7_drawn 42 = .ok (.ldc2_w 286, 3) := by decide +kernel
theorem dX7_drawn_45 : decode cX7_drawn 45 = .ok (.ladd, 1) := by decide +kernel
theorem dX7_drawn_46 : decode cX7_drawn 46 = .ok (.putfield 280, 3) := by decide +kernel
theorem dX7_drawn_49 : decode cX7_drawn 49 = .ok (.aload_n 0, 1) := by decide +kernel
theorem dX7_drawn_50 : decode cX7_drawn 50 = .ok (.getfield 280, 3) := by decide +kernel
theorem dX7_drawn_53 : decode cX7_drawn 53 = .ok (.bipush 33, 2) := by decide +kernel
theorem dX7_drawn_55 : decode cX7_drawn 55 = .ok (.lushr, 1) := by decide +kernel
theorem dX7_drawn_56 : decode cX7_drawn 56 = .ok (.l2i, 1) := by decide +kernel
theorem dX7_drawn_57 : decode cX7_drawn 57 = .ok (.istore 4, 2) := by decide +kernel
theorem dX7_drawn_59 : decode cX7_drawn 59 = .ok (.iload 4, 2) := by decide +kernel
theorem dX7_drawn_61 : decode cX7_drawn 61 = .ok (.iconst 4, 1) := by decide +kernel
theorem dX7_drawn_62 : decode cX7_drawn 62 = .ok (.idiv, 1) := by decide +kernel
theorem dX7_drawn_63 : decode cX7_drawn 63 = .ok (.bipush 7, 2) := by decide +kernel
theorem dX7_drawn_65 : decode cX7_drawn 65 = .ok (.irem, 1) := by decide +kernel
theorem dX7_drawn_66 : decode cX7_drawn 66 = .ok (.istore 5, 2) := by decide +kernel
theorem dX7_drawn_68 : decode cX7_drawn 68 = .ok (.iload 4, 2) := by decide +kernel
theorem dX7_drawn_70 : decode cX7_drawn 70 = .ok (.iconst 4, 1) := by decide +kernel
theorem dX7_drawn_71 : decode cX7_drawn 71 = .ok (.irem, 1) := by decide +kernel
theorem dX7_drawn_72 : decode cX7_drawn 72 = .ok (.istore 6, 2) := by decide +kernel
theorem dX7_drawn_74 : decode cX7_drawn 74 = .ok (.iload 5, 2) := by decide +kernel
theorem dX7_drawn_76 : decode cX7_drawn 76 = .ok (.bipush 6, 2) := by decide +kernel
theorem dX7_drawn_78 : decode cX7_drawn 78 = .ok (.if_icmp .ne 15, 3) := by decide +kernel
theorem dX7_drawn_81 : decode cX7_drawn 81 = .ok (.aload_n 0, 1) := by decide +kernel
theorem dX7_drawn_82 : decode cX7_drawn 82 = .ok (.aload_n 0, 1) := by decide +kernel
theorem dX7_drawn_83 : decode cX7_drawn 83 = .ok (.getfield 31, 3) := by decide +kernel
theorem dX7_drawn_86 : decode cX7_drawn 86 = .ok (.iconst 0, 1) := by decide +kernel
theorem dX7_drawn_87 : decode cX7_drawn 87 = .ok (.invokevirtual 186, 3) := by decide +kernel
theorem dX7_drawn_90 : decode cX7_drawn 90 = .ok (.goto 37, 3) := by decide +kernel
theorem dX7_drawn_93 : decode cX7_drawn 93 = .ok (.aload_n 0, 1) := by decide +kernel
theorem dX7_drawn_94 : decode cX7_drawn 94 = .ok (.iload 6, 2) := by decide +kernel
theorem dX7_drawn_96 : decode cX7_drawn 96 = .ok (.invokevirtual 205, 3) := by decide +kernel
theorem dX7_drawn_99 : decode cX7_drawn 99 = .ok (.ifCond .eq 28, 3) := by decide +kernel
theorem dX7_drawn_102 : decode cX7_drawn 102 = .ok (.aload_n 0, 1) := by decide +kernel
theorem dX7_drawn_103 : decode cX7_drawn 103 = .ok (.aload_n 0, 1) := by decide +kernel
theorem dX7_drawn_104 : decode cX7_drawn 104 = .ok (.getfield 31, 3) := by decide +kernel
theorem dX7_drawn_107 : decode cX7_drawn 107 = .ok (.iload 6, 2) := by decide +kernel
theorem dX7_drawn_109 : decode cX7_drawn 109 = .ok (.invokevirtual 236, 3) := by decide +kernel
theorem dX7_drawn_112 : decode cX7_drawn 112 = .ok (.ifCond .eq 15, 3) := by decide +kernel
theorem dX7_drawn_115 : decode cX7_drawn 115 = .ok (.aload_n 0, 1) := by decide +kernel
theorem dX7_drawn_116 : decode cX7_drawn 116 = .ok (.aload_n 0, 1) := by decide +kernel
theorem dX7_drawn_117 : decode cX7_drawn 117 = .ok (.getfield 31, 3) := by decide +kernel
theorem dX7_drawn_120 : decode cX7_drawn 120 = .ok (.iload 6, 2) := by decide +kernel
theorem dX7_drawn_122 : decode cX7_drawn 122 = .ok (.iload 5, 2) := by decide +kernel
theorem dX7_drawn_124 : decode cX7_drawn 124 = .ok (.invokevirtual 239, 3) := by decide +kernel
theorem dX7_drawn_127 : decode cX7_drawn 127 = .ok (.iload_n 2, 1) := by decide +kernel
theorem dX7_drawn_128 : decode cX7_drawn 128 = .ok (.aload_n 0, 1) := by decide +kernel
theorem dX7_drawn_129 : decode cX7_drawn 129 = .ok (.aload_n 0, 1) := by decide +kernel
theorem dX7_drawn_130 : decode cX7_drawn 130 = .ok (.getfield 31, 3) := by decide +kernel
theorem dX7_drawn_133 : decode cX7_drawn 133 = .ok (.invokevirtual 192, 3) := by decide +kernel
theorem dX7_drawn_136 : decode cX7_drawn 136 = .ok (.iadd, 1) := by decide +kernel
theorem dX7_drawn_137 : decode cX7_drawn 137 = .ok (.istore_n 2, 1) := by decide +kernel
theorem dX7_drawn_138 : decode cX7_drawn 138 = .ok (.iinc 3 1, 3) := by decide +kernel
theorem dX7_drawn_141 : decode cX7_drawn 141 = .ok (.goto (-113), 3) := by decide +kernel
theorem dX7_drawn_144 : decode cX7_drawn 144 = .ok (.iload_n 2, 1) := by decide +kernel
theorem dX7_drawn_145 : decode cX7_drawn 145 = .ok (.ireturn, 1) := by decide +kernel
theorem dX7_keep_0 : decode cX7_keep 0 = .ok (.iload_n 1, 1) := by decide +kernel
theorem dX7_keep_1 : decode cX7_keep 1 = .ok (.iconst 0, 1) := by decide +kernel
theorem dX7_keep_2 : decode cX7_keep 2 = .ok (.iconst 1, 1) := by decide +kernel
theorem dX7_keep_3 : decode cX7_keep 3 = .ok (.invokestatic 93, 3) := by decide +kernel
theorem dX7_keep_6 : decode cX7_keep 6 = .ok (.ifCond .ne 5, 3) := by decide +kernel
theorem dX7_keep_9 : decode cX7_keep 9 = .ok (.iconst (-1), 1) := by decide +kernel
theorem dX7_keep_10 : decode cX7_keep 10 = .ok (.ireturn, 1) := by decide +kernel
theorem dX7_keep_11 : decode cX7_keep 11 = .ok (.aload_n 0, 1) := by decide +kernel
theorem dX7_keep_12 : decode cX7_keep 12 = .ok (.getfield 40, 3) := by decide +kernel
theorem dX7_keep_15 : decode cX7_keep 15 = .ok (.iload_n 1, 1) := by decide +kernel
theorem dX7_keep_16 : decode cX7_keep 16 = .ok (.iconst 1, 1) := by decide +kernel
theorem dX7_keep_17 : decode cX7_keep 17 = .ok (.bastore, 1) := by decide +kernel
theorem dX7_keep_18 : decode cX7_keep 18 = .ok (.iconst 0, 1) := by decide +kernel
theorem dX7_keep_19 : decode cX7_keep 19 = .ok (.istore_n 2, 1) := by decide +kernel
theorem dX7_keep_20 : decode cX7_keep 20 = .ok (.iload_n 2, 1) := by decide +kernel
theorem dX7_keep_21 : decode cX7_keep 21 = .ok (.bipush 40, 2) := by decide +kernel
theorem dX7_keep_23 : decode cX7_keep 23 = .ok (.if_icmp .ge 26, 3) := by decide +kernel
theorem dX7_keep_26 : decode cX7_keep 26 = .ok (.aload_n 0, 1) := by decide +kernel
theorem dX7_keep_27 : decode cX7_keep 27 = .ok (.getfield 37, 3) := by decide +kernel
theorem dX7_keep_30 : decode cX7_keep 30 = .ok (.bipush 40, 2) := by decide +kernel
theorem dX7_keep_32 : decode cX7_keep 32 = .ok (.iload_n 1, 1) := by decide +kernel
theorem dX7_keep_33 : decode cX7_keep 33 = .ok (.imul, 1) := by decide +kernel
theorem dX7_keep_34 : decode cX7_keep 34 = .ok (.iload_n 2, 1) := by decide +kernel
theorem dX7_keep_35 : decode cX7_keep 35 = .ok (.iadd, 1) := by decide +kernel
theorem dX7_keep_36 : decode cX7_keep 36 = .ok (.aload_n 0, 1) := by decide +kernel
theorem dX7_keep_37 : decode cX7_keep 37 = .ok (.getfield 28, 3) := by decide +kernel
theorem dX7_keep_40 : decode cX7_keep 40 = .ok (.iload_n 2, 1) := by decide +kernel
theorem dX7_keep_41 : decode cX7_keep 41 = .ok (.iaload, 1) := by decide +kernel
theorem dX7_keep_42 : decode cX7_keep 42 = .ok (.iastore, 1) := by decide +kernel
theorem dX7_keep_43 : decode cX7_keep 43 = .ok (.iinc 2 1, 3) := by decide +kernel
theorem dX7_keep_46 : decode cX7_keep 46 = .ok (.goto (-26), 3) := by decide +kernel
theorem dX7_keep_49 : decode cX7_keep 49 = .ok (.aload_n 0, 1) := by decide +kernel
theorem dX7_keep_50 : decode cX7_keep 50 = .ok (.getfield 28, 3) := by decide +kernel
theorem dX7_keep_53 : decode cX7_keep 53 = .ok (.bipush 39, 2) := by decide +kernel
theorem dX7_keep_55 : decode cX7_keep 55 = .ok (.iaload, 1) := by decide +kernel
theorem dX7_keep_56 : decode cX7_keep 56 = .ok (.ireturn, 1) := by decide +kernel
theorem dX7_again_0 : decode cX7_again 0 = .ok (.iload_n 1, 1) := by decide +kernel
theorem dX7_again_1 : decode cX7_again 1 = .ok (.iconst 0, 1) := by decide +kernel
theorem dX7_again_2 : decode cX7_again 2 = .ok (.iconst 1, 1) := by decide +kernel
theorem dX7_again_3 : decode cX7_again 3 = .ok (.invokestatic 93, 3) := by decide +kernel
theorem dX7_again_6 : decode cX7_again 6 = .ok (.ifCond .ne 5, 3) := by decide +kernel
theorem dX7_again_9 : decode cX7_again 9 = .ok (.iconst (-1), 1) := by decide +kernel
theorem dX7_again_10 : decode cX7_again 10 = .ok (.ireturn, 1) := by decide +kernel
theorem dX7_again_11 : decode cX7_again 11 = .ok (.aload_n 0, 1) := by decide +kernel
theorem dX7_again_12 : decode cX7_again 12 = .ok (.getfield 40, 3) := by decide +kernel
theorem dX7_again_15 : decode cX7_again 15 = .ok (.iload_n 1, 1) := by decide +kernel
theorem dX7_again_16 : decode cX7_again 16 = .ok (.baload, 1) := by decide +kernel
theorem dX7_again_17 : decode cX7_again 17 = .ok (.ifCond .ne 6, 3) := by decide +kernel
theorem dX7_again_20 : decode cX7_again 20 = .ok (.bipush (-3), 2) := by decide +kernel
theorem dX7_again_22 : decode cX7_again 22 = .ok (.ireturn, 1) := by decide +kernel
theorem dX7_again_23 : decode cX7_again 23 = .ok (.iconst 0, 1) := by decide +kernel
theorem dX7_again_24 : decode cX7_again 24 = .ok (.istore_n 2, 1) := by decide +kernel
theorem dX7_again_25 : decode cX7_again 25 = .ok (.iload_n 2, 1) := by decide +kernel
theorem dX7_again_26 : decode cX7_again 26 = .ok (.bipush 40, 2) := by decide +kernel
theorem dX7_again_28 : decode cX7_again 28 = .ok (.if_icmp .ge 26, 3) := by decide +kernel
theorem dX7_again_31 : decode cX7_again 31 = .ok (.aload_n 0, 1) := by decide +kernel
theorem dX7_again_32 : decode cX7_again 32 = .ok (.getfield 28, 3) := by decide +kernel
theorem dX7_again_35 : decode cX7_again 35 = .ok (.iload_n 2, 1) := by decide +kernel
theorem dX7_again_36 : decode cX7_again 36 = .ok (.aload_n 0, 1) := by decide +kernel
theorem dX7_again_37 : decode cX7_again 37 = .ok (.getfield 37, 3) := by decide +kernel
theorem dX7_again_40 : decode cX7_again 40 = .ok (.bipush 40, 2) := by decide +kernel
theorem dX7_again_42 : decode cX7_again 42 = .ok (.iload_n 1, 1) := by decide +kernel
theorem dX7_again_43 : decode cX7_again 43 = .ok (.imul, 1) := by decide +kernel
theorem dX7_again_44 : decode cX7_again 44 = .ok (.iload_n 2, 1) := by decide +kernel
theorem dX7_again_45 : decode cX7_again 45 = .ok (.iadd, 1) := by decide +kernel
theorem dX7_again_46 : decode cX7_again 46 = .ok (.iaload, 1) := by decide +kernel
theorem dX7_again_47 : decode cX7_again 47 = .ok (.iastore, 1) := by decide +kernel
theorem dX7_again_48 : decode cX7_again 48 = .ok (.iinc 2 1, 3) := by decide +kernel
theorem dX7_again_51 : decode cX7_again 51 = .ok (.goto (-26), 3) := by decide +kernel
theorem dX7_again_54 : decode cX7_again 54 = .ok (.aload_n 0, 1) := by decide +kernel
theorem dX7_again_55 : decode cX7_again 55 = .ok (.iconst 0, 1) := by decide +kernel
theorem dX7_again_56 : decode cX7_again 56 = .ok (.putfield 135, 3) := by decide +kernel
theorem dX7_again_59 : decode cX7_again 59 = .ok (.aload_n 0, 1) := by decide +kernel
theorem dX7_again_60 : decode cX7_again 60 = .ok (.getfield 28, 3) := by decide +kernel
theorem dX7_again_63 : decode cX7_again 63 = .ok (.bipush 39, 2) := by decide +kernel
theorem dX7_again_65 : decode cX7_again 65 = .ok (.iaload, 1) := by decide +kernel
theorem dX7_again_66 : decode cX7_again 66 = .ok (.ireturn, 1) := by decide +kernel
theorem dJ6_bitCount_0f7a4_0 : decode cJ6_bitCount_0f7a4 0 = .ok (.iload_n 0, 1) := by decide +kernel
theorem dJ6_bitCount_0f7a4_1 : decode cJ6_bitCount_0f7a4 1 = .ok (.iload_n 0, 1) := by decide +kernel
theorem dJ6_bitCount_0f7a4_2 : decode cJ6_bitCount_0f7a4 2 = .ok (.iconst 1, 1) := by decide +kernel
theorem dJ6_bitCount_0f7a4_3 : decode cJ6_bitCount_0f7a4 3 = .ok (.iushr, 1) := by decide +kernel
theorem dJ6_bitCount_0f7a4_4 : decode cJ6_bitCount_0f7a4 4 = .ok (.ldc_w 265, 3) := by decide +kernel
theorem dJ6_bitCount_0f7a4_7 : decode cJ6_bitCount_0f7a4 7 = .ok (.iand, 1) := by decide +kernel
theorem dJ6_bitCount_0f7a4_8 : decode cJ6_bitCount_0f7a4 8 = .ok (.isub, 1) := by decide +kernel
theorem dJ6_bitCount_0f7a4_9 : decode cJ6_bitCount_0f7a4 9 = .ok (.istore_n 0, 1) := by decide +kernel
theorem dJ6_bitCount_0f7a4_10 : decode cJ6_bitCount_0f7a4 10 = .ok (.iload_n 0, 1) := by decide +kernel
theorem dJ6_bitCount_0f7a4_11 : decode cJ6_bitCount_0f7a4 11 = .ok (.ldc_w 266, 3) := by decide +kernel
theorem dJ6_bitCount_0f7a4_14 : decode cJ6_bitCount_0f7a4 14 = .ok (.iand, 1) := by decide +kernel
theorem dJ6_bitCount_0f7a4_15 : decode cJ6_bitCount_0f7a4 15 = .ok (.iload_n 0, 1) := by decide +kernel
theorem dJ6_bitCount_0f7a4_16 : decode cJ6_bitCount_0f7a4 16 = .ok (.iconst 2, 1) := by decide +kernel
theorem dJ6_bitCount_0f7a4_17 : decode cJ6_bitCount_0f7a4 17 = .ok (.iushr, 1) := by decide +kernel
theorem dJ6_bitCount_0f7a4_18 : decode cJ6_bitCount_0f7a4 18 = .ok (.ldc_w 266, 3) := by decide +kernel
theorem dJ6_bitCount_0f7a4_21 : decode cJ6_bitCount_0f7a4 21 = .ok (.iand, 1) := by decide +kernel
theorem dJ6_bitCount_0f7a4_22 : decode cJ6_bitCount_0f7a4 22 = .ok (.iadd, 1) := by decide +kernel
theorem dJ6_bitCount_0f7a4_23 : decode cJ6_bitCount_0f7a4 23 = .ok (.istore_n 0, 1) := by decide +kernel
theorem dJ6_bitCount_0f7a4_24 : decode cJ6_bitCount_0f7a4 24 = .ok (.iload_n 0, 1) := by decide +kernel
theorem dJ6_bitCount_0f7a4_25 : decode cJ6_bitCount_0f7a4 25 = .ok (.iload_n 0, 1) := by decide +kernel
theorem dJ6_bitCount_0f7a4_26 : decode cJ6_bitCount_0f7a4 26 = .ok (.iconst 4, 1) := by decide +kernel
theorem dJ6_bitCount_0f7a4_27 : decode cJ6_bitCount_0f7a4 27 = .ok (.iushr, 1) := by decide +kernel
theorem dJ6_bitCount_0f7a4_28 : decode cJ6_bitCount_0f7a4 28 = .ok (.iadd, 1) := by decide +kernel
theorem dJ6_bitCount_0f7a4_29 : decode cJ6_bitCount_0f7a4 29 = .ok (.ldc_w 267, 3) := by decide +kernel
theorem dJ6_bitCount_0f7a4_32 : decode cJ6_bitCount_0f7a4 32 = .ok (.iand, 1) := by decide +kernel
theorem dJ6_bitCount_0f7a4_33 : decode cJ6_bitCount_0f7a4 33 = .ok (.istore_n 0, 1) := by decide +kernel
theorem dJ6_bitCount_0f7a4_34 : decode cJ6_bitCount_0f7a4 34 = .ok (.iload_n 0, 1) := by decide +kernel
theorem dJ6_bitCount_0f7a4_35 : decode cJ6_bitCount_0f7a4 35 = .ok (.iload_n 0, 1) := by decide +kernel
theorem dJ6_bitCount_0f7a4_36 : decode cJ6_bitCount_0f7a4 36 = .ok (.bipush 8, 2) := by decide +kernel
theorem dJ6_bitCount_0f7a4_38 : decode cJ6_bitCount_0f7a4 38 = .ok (.iushr, 1) := by decide +kernel
theorem dJ6_bitCount_0f7a4_39 : decode cJ6_bitCount_0f7a4 39 = .ok (.iadd, 1) := by decide +kernel
theorem dJ6_bitCount_0f7a4_40 : decode cJ6_bitCount_0f7a4 40 = .ok (.istore_n 0, 1) := by decide +kernel
theorem dJ6_bitCount_0f7a4_41 : decode cJ6_bitCount_0f7a4 41 = .ok (.iload_n 0, 1) := by decide +kernel
theorem dJ6_bitCount_0f7a4_42 : decode cJ6_bitCount_0f7a4 42 = .ok (.iload_n 0, 1) := by decide +kernel
theorem dJ6_bitCount_0f7a4_43 : decode cJ6_bitCount_0f7a4 43 = .ok (.bipush 16, 2) := by decide +kernel
theorem dJ6_bitCount_0f7a4_45 : decode cJ6_bitCount_0f7a4 45 = .ok (.iushr, 1) := by decide +kernel
theorem dJ6_bitCount_0f7a4_46 : decode cJ6_bitCount_0f7a4 46 = .ok (.iadd, 1) := by decide +kernel
theorem dJ6_bitCount_0f7a4_47 : decode cJ6_bitCount_0f7a4 47 = .ok (.istore_n 0, 1) := by decide +kernel
theorem dJ6_bitCount_0f7a4_48 : decode cJ6_bitCount_0f7a4 48 = .ok (.iload_n 0, 1) := by decide +kernel
theorem dJ6_bitCount_0f7a4_49 : decode cJ6_bitCount_0f7a4 49 = .ok (.bipush 63, 2) := by decide +kernel
theorem dJ6_bitCount_0f7a4_51 : decode cJ6_bitCount_0f7a4 51 = .ok (.iand, 1) := by decide +kernel
theorem dJ6_bitCount_0f7a4_52 : decode cJ6_bitCount_0f7a4 52 = .ok (.ireturn, 1) := by decide +kernel
theorem dJ9_abs_0f7a4_0 : decode cJ9_abs_0f7a4 0 = .ok (.iload_n 0, 1) := by decide +kernel
theorem dJ9_abs_0f7a4_1 : decode cJ9_abs_0f7a4 1 = .ok (.ifCond .ge 8, 3) := by decide +kernel
theorem dJ9_abs_0f7a4_4 : decode cJ9_abs_0f7a4 4 = .ok (.iload_n 0, 1) := by decide +kernel
theorem dJ9_abs_0f7a4_5 : decode cJ9_abs_0f7a4 5 = .ok (.ineg, 1) := by decide +kernel
theorem dJ9_abs_0f7a4_6 : decode cJ9_abs_0f7a4 6 = .ok (.goto 4, 3) := by decide +kernel
theorem dJ9_abs_0f7a4_9 : decode cJ9_abs_0f7a4 9 = .ok (.iload_n 0, 1) := by decide +kernel
theorem dJ9_abs_0f7a4_10 : decode cJ9_abs_0f7a4 10 = .ok (.ireturn, 1) := by decide +kernel
theorem dJ9_max_7cf53_0 : decode cJ9_max_7cf53 0 = .ok (.iload_n 0, 1) := by decide +kernel
theorem dJ9_max_7cf53_1 : decode cJ9_max_7cf53 1 = .ok (.iload_n 1, 1) := by decide +kernel
theorem dJ9_max_7cf53_2 : decode cJ9_max_7cf53 2 = .ok (.if_icmp .lt 7, 3) := by decide +kernel
theorem dJ9_max_7cf53_5 : decode cJ9_max_7cf53 5 = .ok (.iload_n 0, 1) := by decide +kernel
theorem dJ9_max_7cf53_6 : decode cJ9_max_7cf53 6 = .ok (.goto 4, 3) := by decide +kernel
theorem dJ9_max_7cf53_9 : decode cJ9_max_7cf53 9 = .ok (.iload_n 1, 1) := by decide +kernel
theorem dJ9_max_7cf53_10 : decode cJ9_max_7cf53 10 = .ok (.ireturn, 1) := by decide +kernel
theorem dJ9_min_7cf53_0 : decode cJ9_min_7cf53 0 = .ok (.iload_n 0, 1) := by decide +kernel
theorem dJ9_min_7cf53_1 : decode cJ9_min_7cf53 1 = .ok (.iload_n 1, 1) := by decide +kernel
theorem dJ9_min_7cf53_2 : decode cJ9_min_7cf53 2 = .ok (.if_icmp .gt 7, 3) := by decide +kernel
theorem dJ9_min_7cf53_5 : decode cJ9_min_7cf53 5 = .ok (.iload_n 0, 1) := by decide +kernel
theorem dJ9_min_7cf53_6 : decode cJ9_min_7cf53 6 = .ok (.goto 4, 3) := by decide +kernel
theorem dJ9_min_7cf53_9 : decode cJ9_min_7cf53 9 = .ok (.iload_n 1, 1) := by decide +kernel
theorem dJ9_min_7cf53_10 : decode cJ9_min_7cf53 10 = .ok (.ireturn, 1) := by decide +kernel
theorem dL_law_0 : decode cL_law 0 = .ok (.new 7, 3) := by decide +kernel
theorem dL_law_3 : decode cL_law 3 = .ok (.dup, 1) := by decide +kernel
theorem dL_law_4 : decode cL_law 4 = .ok (.invokespecial 9, 3) := by decide +kernel
theorem dL_law_7 : decode cL_law 7 = .ok (.astore_n 1, 1) := by decide +kernel
theorem dL_law_8 : decode cL_law 8 = .ok (.new 10, 3) := by decide +kernel
theorem dL_law_11 : decode cL_law 11 = .ok (.dup, 1) := by decide +kernel
theorem dL_law_12 : decode cL_law 12 = .ok (.invokespecial 12, 3) := by decide +kernel
theorem dL_law_15 : decode cL_law 15 = .ok (.astore_n 2, 1) := by decide +kernel
theorem dL_law_16 : decode cL_law 16 = .ok (.iconst 0, 1) := by decide +kernel
theorem dL_law_17 : decode cL_law 17 = .ok (.istore_n 3, 1) := by decide +kernel
theorem dL_law_18 : decode cL_law 18 = .ok (.iload_n 3, 1) := by decide +kernel
theorem dL_law_19 : decode cL_law 19 = .ok (.aload_n 0, 1) := by decide +kernel
theorem dL_law_20 : decode cL_law 20 = .ok (.arraylength, 1) := by decide +kernel
theorem dL_law_21 : decode cL_law 21 = .ok (.iconst 5, 1) := by decide +kernel
theorem dL_law_22 : decode cL_law 22 = .ok (.isub, 1) := by decide +kernel
theorem dL_law_23 : decode cL_law 23 = .ok (.if_icmp .gt 1003, 3) := by decide +kernel
theorem dL_law_26 : decode cL_law 26 = .ok (.aload_n 0, 1) := by decide +kernel
theorem dL_law_27 : decode cL_law 27 = .ok (.iload_n 3, 1) := by decide +kernel
theorem dL_law_28 : decode cL_law 28 = .ok (.iaload, 1) := by decide +kernel
theorem dL_law_29 : decode cL_law 29 = .ok (.bipush 31, 2) := by decide +kernel
theorem dL_law_31 : decode cL_law 31 = .ok (.iand, 1) := by decide +kernel
theorem dL_law_32 : decode cL_law 32 = .ok (.tableswitch 988 0 28 #[132, 155, 168, 181, 194, 217, 250, 283, 306, 339, 362, 395, 418, 441, 454, 523, 546, 569, 612, 655, 688, 731, 744, 757, 806, 865, 919, 942, 965], 132) := by decide +kernel
theorem dL_law_164 : decode cL_law 164 = .ok (.aload_n 1, 1) := by decide +kernel
theorem dL_law_165 : decode cL_law 165 = .ok (.aload_n 0, 1) := by decide +kernel
theorem dL_law_166 : decode cL_law 166 = .ok (.iload_n 3, 1) := by decide +kernel
theorem dL_law_167 : decode cL_law 167 = .ok (.iconst 1, 1) := by decide +kernel
theorem dL_law_168 : decode cL_law 168 = .ok (.iadd, 1) := by decide +kernel
theorem dL_law_169 : decode cL_law 169 = .ok (.iaload, 1) := by decide +kernel
theorem dL_law_170 : decode cL_law 170 = .ok (.invokevirtual 13, 3) := by decide +kernel
theorem dL_law_173 : decode cL_law 173 = .ok (.aload_n 2, 1) := by decide +kernel
theorem dL_law_174 : decode cL_law 174 = .ok (.aload_n 0, 1) := by decide +kernel
theorem dL_law_175 : decode cL_law 175 = .ok (.iload_n 3, 1) := by decide +kernel
theorem dL_law_176 : decode cL_law 176 = .ok (.iconst 1, 1) := by decide +kernel
theorem dL_law_177 : decode cL_law 177 = .ok (.iadd, 1) := by decide +kernel
theorem dL_law_178 : decode cL_law 178 = .ok (.iaload, 1) := by decide +kernel
theorem dL_law_179 : decode cL_law 179 = .ok (.invokevirtual 17, 3) := by decide +kernel
theorem dL_law_182 : decode cL_law 182 = .ok (.if_icmp .eq 838, 3) := by decide +kernel
theorem dL_law_185 : decode cL_law 185 = .ok (.iconst 0, 1) := by decide +kernel
theorem dL_law_186 : decode cL_law 186 = .ok (.ireturn, 1) := by decide +kernel
theorem dL_law_187 : decode cL_law 187 = .ok (.aload_n 1, 1) := by decide +kernel
theorem dL_law_188 : decode cL_law 188 = .ok (.invokevirtual 18, 3) := by decide +kernel
theorem dL_law_191 : decode cL_law 191 = .ok (.aload_n 2, 1) := by decide +kernel
theorem dL_law_192 : decode cL_law 192 = .ok (.invokevirtual 22, 3) := by decide +kernel
theorem dL_law_195 : decode cL_law 195 = .ok (.if_icmp .eq 825, 3) := by decide +kernel
theorem dL_law_198 : decode cL_law 198 = .ok (.iconst 0, 1) := by decide +kernel
theorem dL_law_199 : decode cL_law 199 = .ok (.ireturn, 1) := by decide +kernel
theorem dL_law_200 : decode cL_law 200 = .ok (.aload_n 1, 1) := by decide +kernel
theorem dL_law_201 : decode cL_law 201 = .ok (.invokevirtual 23, 3) := by decide +kernel
theorem dL_law_204 : decode cL_law 204 = .ok (.aload_n 2, 1) := by decide +kernel
theorem dL_law_205 : decode cL_law 205 = .ok (.invokevirtual 26, 3) := by decide +kernel
theorem dL_law_208 : decode cL_law 208 = .ok (.if_icmp .eq 812, 3) := by decide +kernel
theorem dL_law_211 : decode cL_law 211 = .ok (.iconst 0, 1) := by decide +kernel
theorem dL_law_212 : decode cL_law 212 = .ok (.ireturn, 1) := by decide +kernel
theorem dL_law_213 : decode cL_law 213 = .ok (.aload_n 1, 1) := by decide +kernel
theorem dL_law_214 : decode cL_law 214 = .ok (.invokevirtual 27, 3) := by decide +kernel
theorem dL_law_217 : decode cL_law 217 = .ok (.aload_n 2, 1) := by decide +kernel
theorem dL_law_218 : decode cL_law 218 = .ok (.invokevirtual 30, 3) := by decide +kernel
theorem dL_law_221 : decode cL_law 221 = .ok (.if_icmp .eq 799, 3) := by decide +kernel
theorem dL_law_224 : decode cL_law 224 = .ok (.iconst 0, 1) := by decide +kernel
theorem dL_law_225 : decode cL_law 225 = .ok (.ireturn, 1) := by decide +kernel
theorem dL_law_226 : decode cL_law 226 = .ok (.aload_n 1, 1) := by decide +kernel
theorem dL_law_227 : decode cL_law 227 = .ok (.aload_n 0, 1) := by decide +kernel
theorem dL_law_228 : decode cL_law 228 = .ok (.iload_n 3, 1) := by decide +kernel
theorem dL_law_229 : decode cL_law 229 = .ok (.iconst 1, 1) := by decide +kernel
theorem dL_law_230 : decode cL_law 230 = .ok (.iadd, 1) := by decide +kernel
theorem dL_law_231 : decode cL_law 231 = .ok (.iaload, 1) := by decide +kernel
theorem dL_law_232 : decode cL_law 232 = .ok (.invokevirtual 31, 3) := by decide +kernel
theorem dL_law_235 : decode cL_law 235 = .ok (.aload_n 2, 1) := by decide +kernel
theorem dL_law_236 : decode cL_law 236 = .ok (.aload_n 0, 1) := by decide +kernel
theorem dL_law_237 : decode cL_law 237 = .ok (.iload_n 3, 1) := by decide +kernel
theorem dL_law_238 : decode cL_law 238 = .ok (.iconst 1, 1) := by decide +kernel
theorem dL_law_239 : decode cL_law 239 = .ok (.iadd, 1) := by decide +kernel
theorem dL_law_240 : decode cL_law 240 = .ok (.iaload, 1) := by decide +kernel
theorem dL_law_241 : decode cL_law 241 = .ok (.invokevirtual 34, 3) := by decide +kernel
theorem dL_law_244 : decode cL_law 244 = .ok (.if_icmp .eq 776, 3) := by decide +kernel
theorem dL_law_247 : decode cL_law 247 = .ok (.iconst 0, 1) := by decide +kernel
theorem dL_law_248 : decode cL_law 248 = .ok (.ireturn, 1) := by decide +kernel
theorem dL_law_249 : decode cL_law 249 = .ok (.aload_n 1, 1) := by decide +kernel
theorem dL_law_250 : decode cL_law 250 = .ok (.aload_n 0, 1) := by decide +kernel
theorem dL_law_251 : decode cL_law 251 = .ok (.iload_n 3, 1) := by decide +kernel
theorem dL_law_252 : decode cL_law 252 = .ok (.iconst 1, 1) := by decide +kernel
theorem dL_law_253 : decode cL_law 253 = .ok (.iadd, 1) := by decide +kernel
theorem dL_law_254 : decode cL_law 254 = .ok (.iaload, 1) := by decide +kernel
theorem dL_law_255 : decode cL_law 255 = .ok (.aload_n 0, 1) := by decide +kernel
theorem dL_law_256 : decode cL_law 256 = .ok (.iload_n 3, 1) := by decide +kernel
theorem dL_law_257 : decode cL_law 257 = .ok (.iconst 2, 1) := by decide +kernel
theorem dL_law_258 : decode cL_law 258 = .ok (.iadd, 1) := by decide +kernel
theorem dL_law_259 : decode cL_law 259 = .ok (.iaload, 1) := by decide +kernel
theorem dL_law_260 : decode cL_law 260 = .ok (.invokevirtual 35, 3) := by decide +kernel
theorem dL_law_263 : decode cL_law 263 = .ok (.aload_n 2, 1) := by decide +kernel
theorem dL_law_264 : decode cL_law 264 = .ok (.aload_n 0, 1) := by decide +kernel
theorem dL_law_265 : decode cL_law 265 = .ok (.iload_n 3, 1) := by decide +kernel
theorem dL_law_266 : decode cL_law 266 = .ok (.iconst 1, 1) := by decide +kernel
theorem dL_law_267 : decode cL_law 267 = .ok (.iadd, 1) := by decide +kernel
theorem dL_law_268 : decode cL_law 268 = .ok (.iaload, 1) := by decide +kernel
theorem dL_law_269 : decode cL_law 269 = .ok (.aload_n 0, 1) := by decide +kernel
theorem dL_law_270 : decode cL_law 270 = .ok (.iload_n 3, 1) := by decide +kernel
theorem dL_law_271 : decode cL_law 271 = .ok (.iconst 2, 1) := by decide +kernel
theorem dL_law_272 : decode cL_law 272 = .ok (.iadd, 1) := by decide +kernel
theorem dL_law_273 : decode cL_law 273 = .ok (.iaload, 1) := by decide +kernel
theorem dL_law_274 : decode cL_law 274 = .ok (.invokevirtual 39, 3) := by decide +kernel
theorem dL_law_277 : decode cL_law 277 = .ok (.if_icmp .eq 743, 3) := by decide +kernel
theorem dL_law_280 : decode cL_law 280 = .ok (.iconst 0, 1) := by decide +kernel
theorem dL_law_281 : decode cL_law 281 = .ok (.ireturn, 1) := by decide +kernel
theorem dL_law_282 : decode cL_law 282 = .ok (.aload_n 1, 1) := by decide +kernel
theorem dL_law_283 : decode cL_law 283 = .ok (.aload_n 0, 1) := by decide +kernel
theorem dL_law_284 : decode cL_law 284 = .ok (.iload_n 3, 1) := by decide +kernel
theorem dL_law_285 : decode cL_law 285 = .ok (.iconst 1, 1) := by decide +kernel
theorem dL_law_286 : decode cL_law 286 = .ok (.iadd, 1) := by decide +kernel
theorem dL_law_287 : decode cL_law 287 = .ok (.iaload, 1) := by decide +kernel
theorem dL_law_288 : decode cL_law 288 = .ok (.aload_n 0, 1) := by decide +kernel
theorem dL_law_289 : decode cL_law 289 = .ok (.iload_n 3, 1) := by decide +kernel
theorem dL_law_290 : decode cL_law 290 = .ok (.iconst 2, 1) := by decide +kernel
theorem dL_law_291 : decode cL_law 291 = .ok (.iadd, 1) := by decide +kernel
theorem dL_law_292 : decode cL_law 292 = .ok (.iaload, 1) := by decide +kernel
theorem dL_law_293 : decode cL_law 293 = .ok (.invokevirtual 40, 3) := by decide +kernel
theorem dL_law_296 : decode cL_law 296 = .ok (.aload_n 2, 1) := by decide +kernel
theorem dL_law_297 : decode cL_law 297 = .ok (.aload_n 0, 1) := by decide +kernel
theorem dL_law_298 : decode cL_law 298 = .ok (.iload_n 3, 1) := by decide +kernel
theorem dL_law_299 : decode cL_law 299 = .ok (.iconst 1, 1) := by decide +kernel
theorem dL_law_300 : decode cL_law 300 = .ok (.iadd, 1) := by decide +kernel
theorem dL_law_301 : decode cL_law 301 = .ok (.iaload, 1) := by decide +kernel
theorem dL_law_302 : decode cL_law 302 = .ok (.aload_n 0, 1) := by decide +kernel
theorem dL_law_303 : decode cL_law 303 = .ok (.iload_n 3, 1) := by decide +kernel
theorem dL_law_304 : decode cL_law 304 = .ok (.iconst 2, 1) := by decide +kernel
theorem dL_law_305 : decode cL_law 305 = .ok (.iadd, 1) := by decide +kernel
theorem dL_law_306 : decode cL_law 306 = .ok (.iaload, 1) := by decide +kernel
theorem dL_law_307 : decode cL_law 307 = .ok (.invokevirtual 43, 3) := by decide +kernel
theorem dL_law_310 : decode cL_law 310 = .ok (.if_icmp .eq 710, 3) := by decide +kernel
theorem dL_law_313 : decode cL_law 313 = .ok (.iconst 0, 1) := by decide +kernel
theorem dL_law_314 : decode cL_law 314 = .ok (.ireturn, 1) := by decide +kernel
theorem dL_law_315 : decode cL_law 315 = .ok (.aload_n 1, 1) := by decide +kernel
theorem dL_law_316 : decode cL_law 316 = .ok (.aload_n 0, 1) := by decide +kernel
theorem dL_law_317 : decode cL_law 317 = .ok (.iload_n 3, 1) := by decide +kernel
theorem dL_law_318 : decode cL_law 318 = .ok (.iconst 1, 1) := by decide +kernel
theorem dL_law_319 : decode cL_law 319 = .ok (.iadd, 1) := by decide +kernel
theorem dL_law_320 : decode cL_law 320 = .ok (.iaload, 1) := by decide +kernel
theorem dL_law_321 : decode cL_law 321 = .ok (.invokevirtual 44, 3) := by decide +kernel
theorem dL_law_324 : decode cL_law 324 = .ok (.aload_n 2, 1) := by decide +kernel
theorem dL_law_325 : decode cL_law 325 = .ok (.aload_n 0, 1) := by decide +kernel
theorem dL_law_326 : decode cL_law 326 = .ok (.iload_n 3, 1) := by decide +kernel
theorem dL_law_327 : decode cL_law 327 = .ok (.iconst 1, 1) := by decide +kernel
theorem dL_law_328 : decode cL_law 328 = .ok (.iadd, 1) := by decide +kernel
theorem dL_law_329 : decode cL_law 329 = .ok (.iaload, 1) := by decide +kernel
theorem dL_law_330 : decode cL_law 330 = .ok (.invokevirtual 47, 3) := by decide +kernel
theorem dL_law_333 : decode cL_law 333 = .ok (.if_icmp .eq 687, 3) := by decide +kernel
theorem dL_law_336 : decode cL_law 336 = .ok (.iconst 0, 1) := by decide +kernel
theorem dL_law_337 : decode cL_law 337 = .ok (.ireturn, 1) := by decide +kernel
theorem dL_law_338 : decode cL_law 338 = .ok (.aload_n 1, 1) := by decide +kernel
theorem dL_law_339 : decode cL_law 339 = .ok (.aload_n 0, 1) := by decide +kernel
theorem dL_law_340 : decode cL_law 340 = .ok (.iload_n 3, 1) := by decide +kernel
theorem dL_law_341 : decode cL_law 341 = .ok (.iconst 1, 1) := by decide +kernel
theorem dL_law_342 : decode cL_law 342 = .ok (.iadd, 1) := by decide +kernel
theorem dL_law_343 : decode cL_law 343 = .ok (.iaload, 1) := by decide +kernel
theorem dL_law_344 : decode cL_law 344 = .ok (.aload_n 0, 1) := by decide +kernel
theorem dL_law_345 : decode cL_law 345 = .ok (.iload_n 3, 1) := by decide +kernel
theorem dL_law_346 : decode cL_law 346 = .ok (.iconst 2, 1) := by decide +kernel
theorem dL_law_347 : decode cL_law 347 = .ok (.iadd, 1) := by decide +kernel
theorem dL_law_348 : decode cL_law 348 = .ok (.iaload, 1) := by decide +kernel
theorem dL_law_349 : decode cL_law 349 = .ok (.invokevirtual 48, 3) := by decide +kernel
theorem dL_law_352 : decode cL_law 352 = .ok (.aload_n 2, 1) := by decide +kernel
theorem dL_law_353 : decode cL_law 353 = .ok (.aload_n 0, 1) := by decide +kernel
theorem dL_law_354 : decode cL_law 354 = .ok (.iload_n 3, 1) := by decide +kernel
theorem dL_law_355 : decode cL_law 355 = .ok (.iconst 1, 1) := by decide +kernel
theorem dL_law_356 : decode cL_law 356 = .ok (.iadd, 1) := by decide +kernel
theorem dL_law_357 : decode cL_law 357 = .ok (.iaload, 1) := by decide +kernel
theorem dL_law_358 : decode cL_law 358 = .ok (.aload_n 0, 1) := by decide +kernel
theorem dL_law_359 : decode cL_law 359 = .ok (.iload_n 3, 1) := by decide +kernel
theorem dL_law_360 : decode cL_law 360 = .ok (.iconst 2, 1) := by decide +kernel
theorem dL_law_361 : decode cL_law 361 = .ok (.iadd, 1) := by decide +kernel
theorem dL_law_362 : decode cL_law 362 = .ok (.iaload, 1) := by decide +kernel
theorem dL_law_363 : decode cL_law 363 = .ok (.invokevirtual 51, 3) := by decide +kernel
theorem dL_law_366 : decode cL_law 366 = .ok (.if_icmp .eq 654, 3) := by decide +kernel
theorem dL_law_369 : decode cL_law 369 = .ok (.iconst 0, 1) := by decide +kernel
theorem dL_law_370 : decode cL_law 370 = .ok (.ireturn, 1) := by decide +kernel
theorem dL_law_371 : decode cL_law 371 = .ok (.aload_n 1, 1) := by decide +kernel
theorem dL_law_372 : decode cL_law 372 = .ok (.aload_n 0, 1) := by decide +kernel
theorem dL_law_373 : decode cL_law 373 = .ok (.iload_n 3, 1) := by decide +kernel
theorem dL_law_374 : decode cL_law 374 = .ok (.iconst 1, 1) := by decide +kernel
theorem dL_law_375 : decode cL_law 375 = .ok (.iadd, 1) := by decide +kernel
theorem dL_law_376 : decode cL_law 376 = .ok (.iaload, 1) := by decide +kernel
theorem dL_law_377 : decode cL_law 377 = .ok (.invokevirtual 52, 3) := by decide +kernel
theorem dL_law_380 : decode cL_law 380 = .ok (.aload_n 2, 1) := by decide +kernel
theorem dL_law_381 : decode cL_law 381 = .ok (.aload_n 0, 1) := by decide +kernel
theorem dL_law_382 : decode cL_law 382 = .ok (.iload_n 3, 1) := by decide +kernel
theorem dL_law_383 : decode cL_law 383 = .ok (.iconst 1, 1) := by decide +kernel
theorem dL_law_384 : decode cL_law 384 = .ok (.iadd, 1) := by decide +kernel
theorem dL_law_385 : decode cL_law 385 = .ok (.iaload, 1) := by decide +kernel
theorem dL_law_386 : decode cL_law 386 = .ok (.invokevirtual 55, 3) := by decide +kernel
theorem dL_law_389 : decode cL_law 389 = .ok (.if_icmp .eq 631, 3) := by decide +kernel
theorem dL_law_392 : decode cL_law 392 = .ok (.iconst 0, 1) := by decide +kernel
theorem dL_law_393 : decode cL_law 393 = .ok (.ireturn, 1) := by decide +kernel
theorem dL_law_394 : decode cL_law 394 = .ok (.aload_n 1, 1) := by decide +kernel
theorem dL_law_395 : decode cL_law 395 = .ok (.aload_n 0, 1) := by decide +kernel
theorem dL_law_396 : decode cL_law 396 = .ok (.iload_n 3, 1) := by decide +kernel
theorem dL_law_397 : decode cL_law 397 = .ok (.iconst 1, 1) := by decide +kernel
theorem dL_law_398 : decode cL_law 398 = .ok (.iadd, 1) := by decide +kernel
theorem dL_law_399 : decode cL_law 399 = .ok (.iaload, 1) := by decide +kernel
theorem dL_law_400 : decode cL_law 400 = .ok (.aload_n 0, 1) := by decide +kernel
theorem dL_law_401 : decode cL_law 401 = .ok (.iload_n 3, 1) := by decide +kernel
theorem dL_law_402 : decode cL_law 402 = .ok (.iconst 2, 1) := by decide +kernel
theorem dL_law_403 : decode cL_law 403 = .ok (.iadd, 1) := by decide +kernel
theorem dL_law_404 : decode cL_law 404 = .ok (.iaload, 1) := by decide +kernel
theorem dL_law_405 : decode cL_law 405 = .ok (.invokevirtual 56, 3) := by decide +kernel
theorem dL_law_408 : decode cL_law 408 = .ok (.aload_n 2, 1) := by decide +kernel
theorem dL_law_409 : decode cL_law 409 = .ok (.aload_n 0, 1) := by decide +kernel
theorem dL_law_410 : decode cL_law 410 = .ok (.iload_n 3, 1) := by decide +kernel
theorem dL_law_411 : decode cL_law 411 = .ok (.iconst 1, 1) := by decide +kernel
theorem dL_law_412 : decode cL_law 412 = .ok (.iadd, 1) := by decide +kernel
theorem dL_law_413 : decode cL_law 413 = .ok (.iaload, 1) := by decide +kernel
theorem dL_law_414 : decode cL_law 414 = .ok (.aload_n 0, 1) := by decide +kernel
theorem dL_law_415 : decode cL_law 415 = .ok (.iload_n 3, 1) := by decide +kernel
theorem dL_law_416 : decode cL_law 416 = .ok (.iconst 2, 1) := by decide +kernel
theorem dL_law_417 : decode cL_law 417 = .ok (.iadd, 1) := by decide +kernel
theorem dL_law_418 : decode cL_law 418 = .ok (.iaload, 1) := by decide +kernel
theorem dL_law_419 : decode cL_law 419 = .ok (.invokevirtual 59, 3) := by decide +kernel
theorem dL_law_422 : decode cL_law 422 = .ok (.if_icmp .eq 598, 3) := by decide +kernel
theorem dL_law_425 : decode cL_law 425 = .ok (.iconst 0, 1) := by decide +kernel
theorem dL_law_426 : decode cL_law 426 = .ok (.ireturn, 1) := by decide +kernel
theorem dL_law_427 : decode cL_law 427 = .ok (.aload_n 1, 1) := by decide +kernel
theorem dL_law_428 : decode cL_law 428 = .ok (.aload_n 0, 1) := by decide +kernel
theorem dL_law_429 : decode cL_law 429 = .ok (.iload_n 3, 1) := by decide +kernel
theorem dL_law_430 : decode cL_law 430 = .ok (.iconst 1, 1) := by decide +kernel
theorem dL_law_431 : decode cL_law 431 = .ok (.iadd, 1) := by decide +kernel
theorem dL_law_432 : decode cL_law 432 = .ok (.iaload, 1) := by decide +kernel
theorem dL_law_433 : decode cL_law 433 = .ok (.invokevirtual 60, 3) := by decide +kernel
theorem dL_law_436 : decode cL_law 436 = .ok (.aload_n 2, 1) := by decide +kernel
theorem dL_law_437 : decode cL_law 437 = .ok (.aload_n 0, 1) := by decide +kernel
theorem dL_law_438 : decode cL_law 438 = .ok (.iload_n 3, 1) := by decide +kernel
theorem dL_law_439 : decode cL_law 439 = .ok (.iconst 1, 1) := by decide +kernel
theorem dL_law_440 : decode cL_law 440 = .ok (.iadd, 1) := by decide +kernel
theorem dL_law_441 : decode cL_law 441 = .ok (.iaload, 1) := by decide +kernel
theorem dL_law_442 : decode cL_law 442 = .ok (.invokevirtual 63, 3) := by decide +kernel
theorem dL_law_445 : decode cL_law 445 = .ok (.if_icmp .eq 575, 3) := by decide +kernel
theorem dL_law_448 : decode cL_law 448 = .ok (.iconst 0, 1) := by decide +kernel
theorem dL_law_449 : decode cL_law 449 = .ok (.ireturn, 1) := by decide +kernel
theorem dL_law_450 : decode cL_law 450 = .ok (.aload_n 1, 1) := by decide +kernel
theorem dL_law_451 : decode cL_law 451 = .ok (.aload_n 0, 1) := by decide +kernel
theorem dL_law_452 : decode cL_law 452 = .ok (.iload_n 3, 1) := by decide +kernel
theorem dL_law_453 : decode cL_law 453 = .ok (.iconst 1, 1) := by decide +kernel
theorem dL_law_454 : decode cL_law 454 = .ok (.iadd, 1) := by decide +kernel
theorem dL_law_455 : decode cL_law 455 = .ok (.iaload, 1) := by decide +kernel
theorem dL_law_456 : decode cL_law 456 = .ok (.invokevirtual 64, 3) := by decide +kernel
theorem dL_law_459 : decode cL_law 459 = .ok (.aload_n 2, 1) := by decide +kernel
theorem dL_law_460 : decode cL_law 460 = .ok (.aload_n 0, 1) := by decide +kernel
theorem dL_law_461 : decode cL_law 461 = .ok (.iload_n 3, 1) := by decide +kernel
theorem dL_law_462 : decode cL_law 462 = .ok (.iconst 1, 1) := by decide +kernel
theorem dL_law_463 : decode cL_law 463 = .ok (.iadd, 1) := by decide +kernel
theorem dL_law_464 : decode cL_law 464 = .ok (.iaload, 1) := by decide +kernel
theorem dL_law_465 : decode cL_law 465 = .ok (.invokevirtual 67, 3) := by decide +kernel
theorem dL_law_468 : decode cL_law 468 = .ok (.if_icmp .eq 552, 3) := by decide +kernel
theorem dL_law_471 : decode cL_law 471 = .ok (.iconst 0, 1) := by decide +kernel
theorem dL_law_472 : decode cL_law 472 = .ok (.ireturn, 1) := by decide +kernel
theorem dL_law_473 : decode cL_law 473 = .ok (.aload_n 1, 1) := by decide +kernel
theorem dL_law_474 : decode cL_law 474 = .ok (.invokevirtual 68, 3) := by decide +kernel
theorem dL_law_477 : decode cL_law 477 = .ok (.aload_n 2, 1) := by decide +kernel
theorem dL_law_478 : decode cL_law 478 = .ok (.invokevirtual 71, 3) := by decide +kernel
theorem dL_law_481 : decode cL_law 481 = .ok (.if_icmp .eq 539, 3) := by decide +kernel
theorem dL_law_484 : decode cL_law 484 = .ok (.iconst 0, 1) := by decide +kernel
theorem dL_law_485 : decode cL_law 485 = .ok (.ireturn, 1) := by decide +kernel
theorem dL_law_486 : decode cL_law 486 = .ok (.aload_n 1, 1) := by decide +kernel
theorem dL_law_487 : decode cL_law 487 = .ok (.aload_n 0, 1) := by decide +kernel
theorem dL_law_488 : decode cL_law 488 = .ok (.iload_n 3, 1) := by decide +kernel
theorem dL_law_489 : decode cL_law 489 = .ok (.iconst 1, 1) := by decide +kernel
theorem dL_law_490 : decode cL_law 490 = .ok (.iadd, 1) := by decide +kernel
theorem dL_law_491 : decode cL_law 491 = .ok (.iaload, 1) := by decide +kernel
theorem dL_law_492 : decode cL_law 492 = .ok (.aload_n 0, 1) := by decide +kernel
theorem dL_law_493 : decode cL_law 493 = .ok (.iload_n 3, 1) := by decide +kernel
theorem dL_law_494 : decode cL_law 494 = .ok (.iconst 2, 1) := by decide +kernel
theorem dL_law_495 : decode cL_law 495 = .ok (.iadd, 1) := by decide +kernel
theorem dL_law_496 : decode cL_law 496 = .ok (.iaload, 1) := by decide +kernel
theorem dL_law_497 : decode cL_law 497 = .ok (.ifCond .eq 7, 3) := by decide +kernel
theorem dL_law_500 : decode cL_law 500 = .ok (.iconst 1, 1) := by decide +kernel
theorem dL_law_501 : decode cL_law 501 = .ok (.goto 4, 3) := by decide +kernel
theorem dL_law_504 : decode cL_law 504 = .ok (.iconst 0, 1) := by decide +kernel
theorem dL_law_505 : decode cL_law 505 = .ok (.aload_n 0, 1) := by decide +kernel
theorem dL_law_506 : decode cL_law 506 = .ok (.iload_n 3, 1) := by decide +kernel
theorem dL_law_507 : decode cL_law 507 = .ok (.iconst 3, 1) := by decide +kernel
theorem dL_law_508 : decode cL_law 508 = .ok (.iadd, 1) := by decide +kernel
theorem dL_law_509 : decode cL_law 509 = .ok (.iaload, 1) := by decide +kernel
theorem dL_law_510 : decode cL_law 510 = .ok (.aload_n 0, 1) := by decide +kernel
theorem dL_law_511 : decode cL_law 511 = .ok (.iload_n 3, 1) := by decide +kernel
theorem dL_law_512 : decode cL_law 512 = .ok (.iconst 4, 1) := by decide +kernel
theorem dL_law_513 : decode cL_law 513 = .ok (.iadd, 1) := by decide +kernel
theorem dL_law_514 : decode cL_law 514 = .ok (.iaload, 1) := by decide +kernel
theorem dL_law_515 : decode cL_law 515 = .ok (.invokevirtual 72, 3) := by decide +kernel
theorem dL_law_518 : decode cL_law 518 = .ok (.aload_n 2, 1) := by decide +kernel
theorem dL_law_519 : decode cL_law 519 = .ok (.aload_n 0, 1) := by decide +kernel
theorem dL_law_520 : decode cL_law 520 = .ok (.iload_n 3, 1) := by decide +kernel
theorem dL_law_521 : decode cL_law 521 = .ok (.iconst 1, 1) := by decide +kernel
theorem dL_law_522 : decode cL_law 522 = .ok (.iadd, 1) := by decide +kernel
theorem dL_law_523 : decode cL_law 523 = .ok (.iaload, 1) := by decide +kernel
theorem dL_law_524 : decode cL_law 524 = .ok (.aload_n 0, 1) := by decide +kernel
theorem dL_law_525 : decode cL_law 525 = .ok (.iload_n 3, 1) := by decide +kernel
theorem dL_law_526 : decode cL_law 526 = .ok (.iconst 2, 1) := by decide +kernel
theorem dL_law_527 : decode cL_law 527 = .ok (.iadd, 1) := by decide +kernel
theorem dL_law_528 : decode cL_law 528 = .ok (.iaload, 1) := by decide +kernel
theorem dL_law_529 : decode cL_law 529 = .ok (.ifCond .eq 7, 3) := by decide +kernel
theorem dL_law_532 : decode cL_law 532 = .ok (.iconst 1, 1) := by decide +kernel
theorem dL_law_533 : decode cL_law 533 = .ok (.goto 4, 3) := by decide +kernel
theorem dL_law_536 : decode cL_law 536 = .ok (.iconst 0, 1) := by decide +kernel
theorem dL_law_537 : decode cL_law 537 = .ok (.aload_n 0, 1) := by decide +kernel
theorem dL_law_538 : decode cL_law 538 = .ok (.iload_n 3, 1) := by decide +kernel
theorem dL_law_539 : decode cL_law 539 = .ok (.iconst 3, 1) := by decide +kernel
theorem dL_law_540 : decode cL_law 540 = .ok (.iadd, 1) := by decide +kernel
theorem dL_law_541 : decode cL_law 541 = .ok (.iaload, 1) := by decide +kernel
theorem dL_law_542 : decode cL_law 542 = .ok (.aload_n 0, 1) := by decide +kernel
theorem dL_law_543 : decode cL_law 543 = .ok (.iload_n 3, 1) := by decide +kernel
theorem dL_law_544 : decode cL_law 544 = .ok (.iconst 4, 1) := by decide +kernel
theorem dL_law_545 : decode cL_law 545 = .ok (.iadd, 1) := by decide +kernel
theorem dL_law_546 : decode cL_law 546 = .ok (.iaload, 1) := by decide +kernel
theorem dL_law_547 : decode cL_law 547 = .ok (.invokevirtual 76, 3) := by decide +kernel
theorem dL_law_550 : decode cL_law 550 = .ok (.if_icmp .eq 470, 3) := by decide +kernel
theorem dL_law_553 : decode cL_law 553 = .ok (.iconst 0, 1) := by decide +kernel
theorem dL_law_554 : decode cL_law 554 = .ok (.ireturn, 1) := by decide +kernel
theorem dL_law_555 : decode cL_law 555 = .ok (.aload_n 1, 1) := by decide +kernel
theorem dL_law_556 : decode cL_law 556 = .ok (.aload_n 0, 1) := by decide +kernel
theorem dL_law_557 : decode cL_law 557 = .ok (.iload_n 3, 1) := by decide +kernel
theorem dL_law_558 : decode cL_law 558 = .ok (.iconst 1, 1) := by decide +kernel
theorem dL_law_559 : decode cL_law 559 = .ok (.iadd, 1) := by decide +kernel
theorem dL_law_560 : decode cL_law 560 = .ok (.iaload, 1) := by decide +kernel
theorem dL_law_561 : decode cL_law 561 = .ok (.invokevirtual 77, 3) := by decide +kernel
theorem dL_law_564 : decode cL_law 564 = .ok (.aload_n 2, 1) := by decide +kernel
theorem dL_law_565 : decode cL_law 565 = .ok (.aload_n 0, 1) := by decide +kernel
theorem dL_law_566 : decode cL_law 566 = .ok (.iload_n 3, 1) := by decide +kernel
theorem dL_law_567 : decode cL_law 567 = .ok (.iconst 1, 1) := by decide +kernel
theorem dL_law_568 : decode cL_law 568 = .ok (.iadd, 1) := by decide +kernel
theorem dL_law_569 : decode cL_law 569 = .ok (.iaload, 1) := by decide +kernel
theorem dL_law_570 : decode cL_law 570 = .ok (.invokevirtual 80, 3) := by decide +kernel
theorem dL_law_573 : decode cL_law 573 = .ok (.if_icmp .eq 447, 3) := by decide +kernel
theorem dL_law_576 : decode cL_law 576 = .ok (.iconst 0, 1) := by decide +kernel
theorem dL_law_577 : decode cL_law 577 = .ok (.ireturn, 1) := by decide +kernel
theorem dL_law_578 : decode cL_law 578 = .ok (.aload_n 1, 1) := by decide +kernel
theorem dL_law_579 : decode cL_law 579 = .ok (.aload_n 0, 1) := by decide +kernel
theorem dL_law_580 : decode cL_law 580 = .ok (.iload_n 3, 1) := by decide +kernel
theorem dL_law_581 : decode cL_law 581 = .ok (.iconst 1, 1) := by decide +kernel
theorem dL_law_582 : decode cL_law 582 = .ok (.iadd, 1) := by decide +kernel
theorem dL_law_583 : decode cL_law 583 = .ok (.iaload, 1) := by decide +kernel
theorem dL_law_584 : decode cL_law 584 = .ok (.invokevirtual 81, 3) := by decide +kernel
theorem dL_law_587 : decode cL_law 587 = .ok (.aload_n 2, 1) := by decide +kernel
theorem dL_law_588 : decode cL_law 588 = .ok (.aload_n 0, 1) := by decide +kernel
theorem dL_law_589 : decode cL_law 589 = .ok (.iload_n 3, 1) := by decide +kernel
theorem dL_law_590 : decode cL_law 590 = .ok (.iconst 1, 1) := by decide +kernel
theorem dL_law_591 : decode cL_law 591 = .ok (.iadd, 1) := by decide +kernel
theorem dL_law_592 : decode cL_law 592 = .ok (.iaload, 1) := by decide +kernel
theorem dL_law_593 : decode cL_law 593 = .ok (.invokevirtual 84, 3) := by decide +kernel
theorem dL_law_596 : decode cL_law 596 = .ok (.if_icmp .eq 424, 3) := by decide +kernel
theorem dL_law_599 : decode cL_law 599 = .ok (.iconst 0, 1) := by decide +kernel
theorem dL_law_600 : decode cL_law 600 = .ok (.ireturn, 1) := by decide +kernel
theorem dL_law_601 : decode cL_law 601 = .ok (.aload_n 1, 1) := by decide +kernel
theorem dL_law_602 : decode cL_law 602 = .ok (.aload_n 0, 1) := by decide +kernel
theorem dL_law_603 : decode cL_law 603 = .ok (.iload_n 3, 1) := by decide +kernel
theorem dL_law_604 : decode cL_law 604 = .ok (.iconst 1, 1) := by decide +kernel
theorem dL_law_605 : decode cL_law 605 = .ok (.iadd, 1) := by decide +kernel
theorem dL_law_606 : decode cL_law 606 = .ok (.iaload, 1) := by decide +kernel
theorem dL_law_607 : decode cL_law 607 = .ok (.aload_n 0, 1) := by decide +kernel
theorem dL_law_608 : decode cL_law 608 = .ok (.iload_n 3, 1) := by decide +kernel
theorem dL_law_609 : decode cL_law 609 = .ok (.iconst 2, 1) := by decide +kernel
theorem dL_law_610 : decode cL_law 610 = .ok (.iadd, 1) := by decide +kernel
theorem dL_law_611 : decode cL_law 611 = .ok (.iaload, 1) := by decide +kernel
theorem dL_law_612 : decode cL_law 612 = .ok (.aload_n 0, 1) := by decide +kernel
theorem dL_law_613 : decode cL_law 613 = .ok (.iload_n 3, 1) := by decide +kernel
theorem dL_law_614 : decode cL_law 614 = .ok (.iconst 3, 1) := by decide +kernel
theorem dL_law_615 : decode cL_law 615 = .ok (.iadd, 1) := by decide +kernel
theorem dL_law_616 : decode cL_law 616 = .ok (.iaload, 1) := by decide +kernel
theorem dL_law_617 : decode cL_law 617 = .ok (.invokevirtual 85, 3) := by decide +kernel
theorem dL_law_620 : decode cL_law 620 = .ok (.aload_n 2, 1) := by decide +kernel
theorem dL_law_621 : decode cL_law 621 = .ok (.aload_n 0, 1) := by decide +kernel
theorem dL_law_622 : decode cL_law 622 = .ok (.iload_n 3, 1) := by decide +kernel
theorem dL_law_623 : decode cL_law 623 = .ok (.iconst 1, 1) := by decide +kernel
theorem dL_law_624 : decode cL_law 624 = .ok (.iadd, 1) := by decide +kernel
theorem dL_law_625 : decode cL_law 625 = .ok (.iaload, 1) := by decide +kernel
theorem dL_law_626 : decode cL_law 626 = .ok (.aload_n 0, 1) := by decide +kernel
theorem dL_law_627 : decode cL_law 627 = .ok (.iload_n 3, 1) := by decide +kernel
theorem dL_law_628 : decode cL_law 628 = .ok (.iconst 2, 1) := by decide +kernel
theorem dL_law_629 : decode cL_law 629 = .ok (.iadd, 1) := by decide +kernel
theorem dL_law_630 : decode cL_law 630 = .ok (.iaload, 1) := by decide +kernel
theorem dL_law_631 : decode cL_law 631 = .ok (.aload_n 0, 1) := by decide +kernel
theorem dL_law_632 : decode cL_law 632 = .ok (.iload_n 3, 1) := by decide +kernel
theorem dL_law_633 : decode cL_law 633 = .ok (.iconst 3, 1) := by decide +kernel
theorem dL_law_634 : decode cL_law 634 = .ok (.iadd, 1) := by decide +kernel
theorem dL_law_635 : decode cL_law 635 = .ok (.iaload, 1) := by decide +kernel
theorem dL_law_636 : decode cL_law 636 = .ok (.invokevirtual 89, 3) := by decide +kernel
theorem dL_law_639 : decode cL_law 639 = .ok (.if_icmp .eq 381, 3) := by decide +kernel
theorem dL_law_642 : decode cL_law 642 = .ok (.iconst 0, 1) := by decide +kernel
theorem dL_law_643 : decode cL_law 643 = .ok (.ireturn, 1) := by decide +kernel
theorem dL_law_644 : decode cL_law 644 = .ok (.aload_n 1, 1) := by decide +kernel
theorem dL_law_645 : decode cL_law 645 = .ok (.aload_n 0, 1) := by decide +kernel
theorem dL_law_646 : decode cL_law 646 = .ok (.iload_n 3, 1) := by decide +kernel
theorem dL_law_647 : decode cL_law 647 = .ok (.iconst 1, 1) := by decide +kernel
theorem dL_law_648 : decode cL_law 648 = .ok (.iadd, 1) := by decide +kernel
theorem dL_law_649 : decode cL_law 649 = .ok (.iaload, 1) := by decide +kernel
theorem dL_law_650 : decode cL_law 650 = .ok (.aload_n 0, 1) := by decide +kernel
theorem dL_law_651 : decode cL_law 651 = .ok (.iload_n 3, 1) := by decide +kernel
theorem dL_law_652 : decode cL_law 652 = .ok (.iconst 2, 1) := by decide +kernel
theorem dL_law_653 : decode cL_law 653 = .ok (.iadd, 1) := by decide +kernel
theorem dL_law_654 : decode cL_law 654 = .ok (.iaload, 1) := by decide +kernel
theorem dL_law_655 : decode cL_law 655 = .ok (.aload_n 0, 1) := by decide +kernel
theorem dL_law_656 : decode cL_law 656 = .ok (.iload_n 3, 1) := by decide +kernel
theorem dL_law_657 : decode cL_law 657 = .ok (.iconst 3, 1) := by decide +kernel
theorem dL_law_658 : decode cL_law 658 = .ok (.iadd, 1) := by decide +kernel
theorem dL_law_659 : decode cL_law 659 = .ok (.iaload, 1) := by decide +kernel
theorem dL_law_660 : decode cL_law 660 = .ok (.invokevirtual 90, 3) := by decide +kernel
theorem dL_law_663 : decode cL_law 663 = .ok (.aload_n 2, 1) := by decide +kernel
theorem dL_law_664 : decode cL_law 664 = .ok (.aload_n 0, 1) := by decide +kernel
theorem dL_law_665 : decode cL_law 665 = .ok (.iload_n 3, 1) := by decide +kernel
theorem dL_law_666 : decode cL_law 666 = .ok (.iconst 1, 1) := by decide +kernel
theorem dL_law_667 : decode cL_law 667 = .ok (.iadd, 1) := by decide +kernel
theorem dL_law_668 : decode cL_law 668 = .ok (.iaload, 1) := by decide +kernel
theorem dL_law_669 : decode cL_law 669 = .ok (.aload_n 0, 1) := by decide +kernel
theorem dL_law_670 : decode cL_law 670 = .ok (.iload_n 3, 1) := by decide +kernel
theorem dL_law_671 : decode cL_law 671 = .ok (.iconst 2, 1) := by decide +kernel
theorem dL_law_672 : decode cL_law 672 = .ok (.iadd, 1) := by decide +kernel
theorem dL_law_673 : decode cL_law 673 = .ok (.iaload, 1) := by decide +kernel
theorem dL_law_674 : decode cL_law 674 = .ok (.aload_n 0, 1) := by decide +kernel
theorem dL_law_675 : decode cL_law 675 = .ok (.iload_n 3, 1) := by decide +kernel
theorem dL_law_676 : decode cL_law 676 = .ok (.iconst 3, 1) := by decide +kernel
theorem dL_law_677 : decode cL_law 677 = .ok (.iadd, 1) := by decide +kernel
theorem dL_law_678 : decode cL_law 678 = .ok (.iaload, 1) := by decide +kernel
theorem dL_law_679 : decode cL_law 679 = .ok (.invokevirtual 93, 3) := by decide +kernel
theorem dL_law_682 : decode cL_law 682 = .ok (.if_icmp .eq 338, 3) := by decide +kernel
theorem dL_law_685 : decode cL_law 685 = .ok (.iconst 0, 1) := by decide +kernel
theorem dL_law_686 : decode cL_law 686 = .ok (.ireturn, 1) := by decide +kernel
theorem dL_law_687 : decode cL_law 687 = .ok (.aload_n 1, 1) := by decide +kernel
theorem dL_law_688 : decode cL_law 688 = .ok (.aload_n 0, 1) := by decide +kernel
theorem dL_law_689 : decode cL_law 689 = .ok (.iload_n 3, 1) := by decide +kernel
theorem dL_law_690 : decode cL_law 690 = .ok (.iconst 1, 1) := by decide +kernel
theorem dL_law_691 : decode cL_law 691 = .ok (.iadd, 1) := by decide +kernel
theorem dL_law_692 : decode cL_law 692 = .ok (.iaload, 1) := by decide +kernel
theorem dL_law_693 : decode cL_law 693 = .ok (.aload_n 0, 1) := by decide +kernel
theorem dL_law_694 : decode cL_law 694 = .ok (.iload_n 3, 1) := by decide +kernel
theorem dL_law_695 : decode cL_law 695 = .ok (.iconst 2, 1) := by decide +kernel
theorem dL_law_696 : decode cL_law 696 = .ok (.iadd, 1) := by decide +kernel
theorem dL_law_697 : decode cL_law 697 = .ok (.iaload, 1) := by decide +kernel
theorem dL_law_698 : decode cL_law 698 = .ok (.invokevirtual 94, 3) := by decide +kernel
theorem dL_law_701 : decode cL_law 701 = .ok (.aload_n 2, 1) := by decide +kernel
theorem dL_law_702 : decode cL_law 702 = .ok (.aload_n 0, 1) := by decide +kernel
theorem dL_law_703 : decode cL_law 703 = .ok (.iload_n 3, 1) := by decide +kernel
theorem dL_law_704 : decode cL_law 704 = .ok (.iconst 1, 1) := by decide +kernel
theorem dL_law_705 : decode cL_law 705 = .ok (.iadd, 1) := by decide +kernel
theorem dL_law_706 : decode cL_law 706 = .ok (.iaload, 1) := by decide +kernel
theorem dL_law_707 : decode cL_law 707 = .ok (.aload_n 0, 1) := by decide +kernel
theorem dL_law_708 : decode cL_law 708 = .ok (.iload_n 3, 1) := by decide +kernel
theorem dL_law_709 : decode cL_law 709 = .ok (.iconst 2, 1) := by decide +kernel
theorem dL_law_710 : decode cL_law 710 = .ok (.iadd, 1) := by decide +kernel
theorem dL_law_711 : decode cL_law 711 = .ok (.iaload, 1) := by decide +kernel
theorem dL_law_712 : decode cL_law 712 = .ok (.invokevirtual 97, 3) := by decide +kernel
theorem dL_law_715 : decode cL_law 715 = .ok (.if_icmp .eq 305, 3) := by decide +kernel
theorem dL_law_718 : decode cL_law 718 = .ok (.iconst 0, 1) := by decide +kernel
theorem dL_law_719 : decode cL_law 719 = .ok (.ireturn, 1) := by decide +kernel
theorem dL_law_720 : decode cL_law 720 = .ok (.aload_n 1, 1) := by decide +kernel
theorem dL_law_721 : decode cL_law 721 = .ok (.aload_n 0, 1) := by decide +kernel
theorem dL_law_722 : decode cL_law 722 = .ok (.iload_n 3, 1) := by decide +kernel
theorem dL_law_723 : decode cL_law 723 = .ok (.iconst 1, 1) := by decide +kernel
theorem dL_law_724 : decode cL_law 724 = .ok (.iadd, 1) := by decide +kernel
theorem dL_law_725 : decode cL_law 725 = .ok (.iaload, 1) := by decide +kernel
theorem dL_law_726 : decode cL_law 726 = .ok (.aload_n 0, 1) := by decide +kernel
theorem dL_law_727 : decode cL_law 727 = .ok (.iload_n 3, 1) := by decide +kernel
theorem dL_law_728 : decode cL_law 728 = .ok (.iconst 2, 1) := by decide +kernel
theorem dL_law_729 : decode cL_law 729 = .ok (.iadd, 1) := by decide +kernel
theorem dL_law_730 : decode cL_law 730 = .ok (.iaload, 1) := by decide +kernel
theorem dL_law_731 : decode cL_law 731 = .ok (.aload_n 0, 1) := by decide +kernel
theorem dL_law_732 : decode cL_law 732 = .ok (.iload_n 3, 1) := by decide +kernel
theorem dL_law_733 : decode cL_law 733 = .ok (.iconst 3, 1) := by decide +kernel
theorem dL_law_734 : decode cL_law 734 = .ok (.iadd, 1) := by decide +kernel
theorem dL_law_735 : decode cL_law 735 = .ok (.iaload, 1) := by decide +kernel
theorem dL_law_736 : decode cL_law 736 = .ok (.invokevirtual 98, 3) := by decide +kernel
theorem dL_law_739 : decode cL_law 739 = .ok (.aload_n 2, 1) := by decide +kernel
theorem dL_law_740 : decode cL_law 740 = .ok (.aload_n 0, 1) := by decide +kernel
theorem dL_law_741 : decode cL_law 741 = .ok (.iload_n 3, 1) := by decide +kernel
theorem dL_law_742 : decode cL_law 742 = .ok (.iconst 1, 1) := by decide +kernel
theorem dL_law_743 : decode cL_law 743 = .ok (.iadd, 1) := by decide +kernel
theorem dL_law_744 : decode cL_law 744 = .ok (.iaload, 1) := by decide +kernel
theorem dL_law_745 : decode cL_law 745 = .ok (.aload_n 0, 1) := by decide +kernel
theorem dL_law_746 : decode cL_law 746 = .ok (.iload_n 3, 1) := by decide +kernel
theorem dL_law_747 : decode cL_law 747 = .ok (.iconst 2, 1) := by decide +kernel
theorem dL_law_748 : decode cL_law 748 = .ok (.iadd, 1) := by decide +kernel
theorem dL_law_749 : decode cL_law 749 = .ok (.iaload, 1) := by decide +kernel
theorem dL_law_750 : decode cL_law 750 = .ok (.aload_n 0, 1) := by decide +kernel
theorem dL_law_751 : decode cL_law 751 = .ok (.iload_n 3, 1) := by decide +kernel
theorem dL_law_752 : decode cL_law 752 = .ok (.iconst 3, 1) := by decide +kernel
theorem dL_law_753 : decode cL_law 753 = .ok (.iadd, 1) := by decide +kernel
theorem dL_law_754 : decode cL_law 754 = .ok (.iaload, 1) := by decide +kernel
theorem dL_law_755 : decode cL_law 755 = .ok (.invokevirtual 101, 3) := by decide +kernel
theorem dL_law_758 : decode cL_law 758 = .ok (.if_icmp .eq 262, 3) := by decide +kernel
theorem dL_law_761 : decode cL_law 761 = .ok (.iconst 0, 1) := by decide +kernel
theorem dL_law_762 : decode cL_law 762 = .ok (.ireturn, 1) := by decide +kernel
theorem dL_law_763 : decode cL_law 763 = .ok (.aload_n 1, 1) := by decide +kernel
theorem dL_law_764 : decode cL_law 764 = .ok (.invokevirtual 102, 3) := by decide +kernel
theorem dL_law_767 : decode cL_law 767 = .ok (.aload_n 2, 1) := by decide +kernel
theorem dL_law_768 : decode cL_law 768 = .ok (.invokevirtual 105, 3) := by decide +kernel
theorem dL_law_771 : decode cL_law 771 = .ok (.if_icmp .eq 249, 3) := by decide +kernel
theorem dL_law_774 : decode cL_law 774 = .ok (.iconst 0, 1) := by decide +kernel
theorem dL_law_775 : decode cL_law 775 = .ok (.ireturn, 1) := by decide +kernel
theorem dL_law_776 : decode cL_law 776 = .ok (.aload_n 1, 1) := by decide +kernel
theorem dL_law_777 : decode cL_law 777 = .ok (.invokevirtual 106, 3) := by decide +kernel
theorem dL_law_780 : decode cL_law 780 = .ok (.aload_n 2, 1) := by decide +kernel
theorem dL_law_781 : decode cL_law 781 = .ok (.invokevirtual 109, 3) := by decide +kernel
theorem dL_law_784 : decode cL_law 784 = .ok (.if_icmp .eq 236, 3) := by decide +kernel
theorem dL_law_787 : decode cL_law 787 = .ok (.iconst 0, 1) := by decide +kernel
theorem dL_law_788 : decode cL_law 788 = .ok (.ireturn, 1) := by decide +kernel
theorem dL_law_789 : decode cL_law 789 = .ok (.aload_n 1, 1) := by decide +kernel
theorem dL_law_790 : decode cL_law 790 = .ok (.aload_n 0, 1) := by decide +kernel
theorem dL_law_791 : decode cL_law 791 = .ok (.iload_n 3, 1) := by decide +kernel
theorem dL_law_792 : decode cL_law 792 = .ok (.iconst 1, 1) := by decide +kernel
theorem dL_law_793 : decode cL_law 793 = .ok (.iadd, 1) := by decide +kernel
theorem dL_law_794 : decode cL_law 794 = .ok (.iaload, 1) := by decide +kernel
theorem dL_law_795 : decode cL_law 795 = .ok (.aload_n 0, 1) := by decide +kernel
theorem dL_law_796 : decode cL_law 796 = .ok (.iload_n 3, 1) := by decide +kernel
theorem dL_law_797 : decode cL_law 797 = .ok (.iconst 2, 1) := by decide +kernel
theorem dL_law_798 : decode cL_law 798 = .ok (.iadd, 1) := by decide +kernel
theorem dL_law_799 : decode cL_law 799 = .ok (.iaload, 1) := by decide +kernel
theorem dL_law_800 : decode cL_law 800 = .ok (.ifCond .eq 7, 3) := by decide +kernel
theorem dL_law_803 : decode cL_law 803 = .ok (.iconst 1, 1) := by decide +kernel
theorem dL_law_804 : decode cL_law 804 = .ok (.goto 4, 3) := by decide +kernel
theorem dL_law_807 : decode cL_law 807 = .ok (.iconst 0, 1) := by decide +kernel
theorem dL_law_808 : decode cL_law 808 = .ok (.invokevirtual 110, 3) := by decide +kernel
theorem dL_law_811 : decode cL_law 811 = .ok (.aload_n 2, 1) := by decide +kernel
theorem dL_law_812 : decode cL_law 812 = .ok (.aload_n 0, 1) := by decide +kernel
theorem dL_law_813 : decode cL_law 813 = .ok (.iload_n 3, 1) := by decide +kernel
theorem dL_law_814 : decode cL_law 814 = .ok (.iconst 1, 1) := by decide +kernel
theorem dL_law_815 : decode cL_law 815 = .ok (.iadd, 1) := by decide +kernel
theorem dL_law_816 : decode cL_law 816 = .ok (.iaload, 1) := by decide +kernel
theorem dL_law_817 : decode cL_law 817 = .ok (.aload_n 0, 1) := by decide +kernel
theorem dL_law_818 : decode cL_law 818 = .ok (.iload_n 3, 1) := by decide +kernel
theorem dL_law_819 : decode cL_law 819 = .ok (.iconst 2, 1) := by decide +kernel
theorem dL_law_820 : decode cL_law 820 = .ok (.iadd, 1) := by decide +kernel
theorem dL_law_821 : decode cL_law 821 = .ok (.iaload, 1) := by decide +kernel
theorem dL_law_822 : decode cL_law 822 = .ok (.ifCond .eq 7, 3) := by decide +kernel
theorem dL_law_825 : decode cL_law 825 = .ok (.iconst 1, 1) := by decide +kernel
theorem dL_law_826 : decode cL_law 826 = .ok (.goto 4, 3) := by decide +kernel
theorem dL_law_829 : decode cL_law 829 = .ok (.iconst 0, 1) := by decide +kernel
theorem dL_law_830 : decode cL_law 830 = .ok (.invokevirtual 114, 3) := by decide +kernel
theorem dL_law_833 : decode cL_law 833 = .ok (.if_icmp .eq 187, 3) := by decide +kernel
theorem dL_law_836 : decode cL_law 836 = .ok (.iconst 0, 1) := by decide +kernel
theorem dL_law_837 : decode cL_law 837 = .ok (.ireturn, 1) := by decide +kernel
theorem dL_law_838 : decode cL_law 838 = .ok (.aload_n 1, 1) := by decide +kernel
theorem dL_law_839 : decode cL_law 839 = .ok (.aload_n 0, 1) := by decide +kernel
theorem dL_law_840 : decode cL_law 840 = .ok (.iload_n 3, 1) := by decide +kernel
theorem dL_law_841 : decode cL_law 841 = .ok (.iconst 1, 1) := by decide +kernel
theorem dL_law_842 : decode cL_law 842 = .ok (.iadd, 1) := by decide +kernel
theorem dL_law_843 : decode cL_law 843 = .ok (.iaload, 1) := by decide +kernel
theorem dL_law_844 : decode cL_law 844 = .ok (.aload_n 0, 1) := by decide +kernel
theorem dL_law_845 : decode cL_law 845 = .ok (.iload_n 3, 1) := by decide +kernel
theorem dL_law_846 : decode cL_law 846 = .ok (.iconst 2, 1) := by decide +kernel
theorem dL_law_847 : decode cL_law 847 = .ok (.iadd, 1) := by decide +kernel
theorem dL_law_848 : decode cL_law 848 = .ok (.iaload, 1) := by decide +kernel
theorem dL_law_849 : decode cL_law 849 = .ok (.aload_n 0, 1) := by decide +kernel
theorem dL_law_850 : decode cL_law 850 = .ok (.iload_n 3, 1) := by decide +kernel
theorem dL_law_851 : decode cL_law 851 = .ok (.iconst 3, 1) := by decide +kernel
theorem dL_law_852 : decode cL_law 852 = .ok (.iadd, 1) := by decide +kernel
theorem dL_law_853 : decode cL_law 853 = .ok (.iaload, 1) := by decide +kernel
theorem dL_law_854 : decode cL_law 854 = .ok (.ifCond .eq 7, 3) := by decide +kernel
theorem dL_law_857 : decode cL_law 857 = .ok (.iconst 1, 1) := by decide +kernel
theorem dL_law_858 : decode cL_law 858 = .ok (.goto 4, 3) := by decide +kernel
theorem dL_law_861 : decode cL_law 861 = .ok (.iconst 0, 1) := by decide +kernel
theorem dL_law_862 : decode cL_law 862 = .ok (.invokevirtual 115, 3) := by decide +kernel
theorem dL_law_865 : decode cL_law 865 = .ok (.aload_n 2, 1) := by decide +kernel
theorem dL_law_866 : decode cL_law 866 = .ok (.aload_n 0, 1) := by decide +kernel
theorem dL_law_867 : decode cL_law 867 = .ok (.iload_n 3, 1) := by decide +kernel
theorem dL_law_868 : decode cL_law 868 = .ok (.iconst 1, 1) := by decide +kernel
theorem dL_law_869 : decode cL_law 869 = .ok (.iadd, 1) := by decide +kernel
theorem dL_law_870 : decode cL_law 870 = .ok (.iaload, 1) := by decide +kernel
theorem dL_law_871 : decode cL_law 871 = .ok (.aload_n 0, 1) := by decide +kernel
theorem dL_law_872 : decode cL_law 872 = .ok (.iload_n 3, 1) := by decide +kernel
theorem dL_law_873 : decode cL_law 873 = .ok (.iconst 2, 1) := by decide +kernel
theorem dL_law_874 : decode cL_law 874 = .ok (.iadd, 1) := by decide +kernel
theorem dL_law_875 : decode cL_law 875 = .ok (.iaload, 1) := by decide +kernel
theorem dL_law_876 : decode cL_law 876 = .ok (.aload_n 0, 1) := by decide +kernel
theorem dL_law_877 : decode cL_law 877 = .ok (.iload_n 3, 1) := by decide +kernel
theorem dL_law_878 : decode cL_law 878 = .ok (.iconst 3, 1) := by decide +kernel
theorem dL_law_879 : decode cL_law 879 = .ok (.iadd, 1) := by decide +kernel
theorem dL_law_880 : decode cL_law 880 = .ok (.iaload, 1) := by decide +kernel
theorem dL_law_881 : decode cL_law 881 = .ok (.ifCond .eq 7, 3) := by decide +kernel
theorem dL_law_884 : decode cL_law 884 = .ok (.iconst 1, 1) := by decide +kernel
theorem dL_law_885 : decode cL_law 885 = .ok (.goto 4, 3) := by decide +kernel
theorem dL_law_888 : decode cL_law 888 = .ok (.iconst 0, 1) := by decide +kernel
theorem dL_law_889 : decode cL_law 889 = .ok (.invokevirtual 119, 3) := by decide +kernel
theorem dL_law_892 : decode cL_law 892 = .ok (.if_icmp .eq 128, 3) := by decide +kernel
theorem dL_law_895 : decode cL_law 895 = .ok (.iconst 0, 1) := by decide +kernel
theorem dL_law_896 : decode cL_law 896 = .ok (.ireturn, 1) := by decide +kernel
theorem dL_law_897 : decode cL_law 897 = .ok (.aload_n 1, 1) := by decide +kernel
theorem dL_law_898 : decode cL_law 898 = .ok (.aload_n 0, 1) := by decide +kernel
theorem dL_law_899 : decode cL_law 899 = .ok (.iload_n 3, 1) := by decide +kernel
theorem dL_law_900 : decode cL_law 900 = .ok (.iconst 1, 1) := by decide +kernel
theorem dL_law_901 : decode cL_law 901 = .ok (.iadd, 1) := by decide +kernel
theorem dL_law_902 : decode cL_law 902 = .ok (.iaload, 1) := by decide +kernel
theorem dL_law_903 : decode cL_law 903 = .ok (.i2l, 1) := by decide +kernel
theorem dL_law_904 : decode cL_law 904 = .ok (.bipush 32, 2) := by decide +kernel
theorem dL_law_906 : decode cL_law 906 = .ok (.lshl, 1) := by decide +kernel
theorem dL_law_907 : decode cL_law 907 = .ok (.aload_n 0, 1) := by decide +kernel
theorem dL_law_908 : decode cL_law 908 = .ok (.iload_n 3, 1) := by decide +kernel
theorem dL_law_909 : decode cL_law 909 = .ok (.iconst 2, 1) := by decide +kernel
theorem dL_law_910 : decode cL_law 910 = .ok (.iadd, 1) := by decide +kernel
theorem dL_law_911 : decode cL_law 911 = .ok (.iaload, 1) := by decide +kernel
theorem dL_law_912 : decode cL_law 912 = .ok (.i2l, 1) := by decide +kernel
theorem dL_law_913 : decode cL_law 913 = .ok (.ldc2_w 120, 3) := by decide +kernel
theorem dL_law_916 : decode cL_law 916 = .ok (.land, 1) := by decide +kernel
theorem dL_law_917 : decode cL_law 917 = .ok (.lor, 1) := by decide +kernel
theorem dL_law_918 : decode cL_law 918 = .ok (.invokevirtual 122, 3) := by decide +kernel
theorem dL_law_921 : decode cL_law 921 = .ok (.aload_n 2, 1) := by decide +kernel
theorem dL_law_922 : decode cL_law 922 = .ok (.aload_n 0, 1) := by decide +kernel
theorem dL_law_923 : decode cL_law 923 = .ok (.iload_n 3, 1) := by decide +kernel
theorem dL_law_924 : decode cL_law 924 = .ok (.iconst 1, 1) := by decide +kernel
theorem dL_law_925 : decode cL_law 925 = .ok (.iadd, 1) := by decide +kernel
theorem dL_law_926 : decode cL_law 926 = .ok (.iaload, 1) := by decide +kernel
theorem dL_law_927 : decode cL_law 927 = .ok (.i2l, 1) := by decide +kernel
theorem dL_law_928 : decode cL_law 928 = .ok (.bipush 32, 2) := by decide +kernel
theorem dL_law_930 : decode cL_law 930 = .ok (.lshl, 1) := by decide +kernel
theorem dL_law_931 : decode cL_law 931 = .ok (.aload_n 0, 1) := by decide +kernel
theorem dL_law_932 : decode cL_law 932 = .ok (.iload_n 3, 1) := by decide +kernel
theorem dL_law_933 : decode cL_law 933 = .ok (.iconst 2, 1) := by decide +kernel
theorem dL_law_934 : decode cL_law 934 = .ok (.iadd, 1) := by decide +kernel
theorem dL_law_935 : decode cL_law 935 = .ok (.iaload, 1) := by decide +kernel
theorem dL_law_936 : decode cL_law 936 = .ok (.i2l, 1) := by decide +kernel
theorem dL_law_937 : decode cL_law 937 = .ok (.ldc2_w 120, 3) := by decide +kernel
theorem dL_law_940 : decode cL_law 940 = .ok (.land, 1) := by decide +kernel
theorem dL_law_941 : decode cL_law 941 = .ok (.lor, 1) := by decide +kernel
theorem dL_law_942 : decode cL_law 942 = .ok (.invokevirtual 126, 3) := by decide +kernel
theorem dL_law_945 : decode cL_law 945 = .ok (.lcmp, 1) := by decide +kernel
theorem dL_law_946 : decode cL_law 946 = .ok (.ifCond .eq 74, 3) := by decide +kernel
theorem dL_law_949 : decode cL_law 949 = .ok (.iconst 0, 1) := by decide +kernel
theorem dL_law_950 : decode cL_law 950 = .ok (.ireturn, 1) := by decide +kernel
theorem dL_law_951 : decode cL_law 951 = .ok (.aload_n 1, 1) := by decide +kernel
theorem dL_law_952 : decode cL_law 952 = .ok (.aload_n 0, 1) := by decide +kernel
theorem dL_law_953 : decode cL_law 953 = .ok (.iload_n 3, 1) := by decide +kernel
theorem dL_law_954 : decode cL_law 954 = .ok (.iconst 1, 1) := by decide +kernel
theorem dL_law_955 : decode cL_law 955 = .ok (.iadd, 1) := by decide +kernel
theorem dL_law_956 : decode cL_law 956 = .ok (.iaload, 1) := by decide +kernel
theorem dL_law_957 : decode cL_law 957 = .ok (.invokevirtual 127, 3) := by decide +kernel
theorem dL_law_960 : decode cL_law 960 = .ok (.aload_n 2, 1) := by decide +kernel
theorem dL_law_961 : decode cL_law 961 = .ok (.aload_n 0, 1) := by decide +kernel
theorem dL_law_962 : decode cL_law 962 = .ok (.iload_n 3, 1) := by decide +kernel
theorem dL_law_963 : decode cL_law 963 = .ok (.iconst 1, 1) := by decide +kernel
theorem dL_law_964 : decode cL_law 964 = .ok (.iadd, 1) := by decide +kernel
theorem dL_law_965 : decode cL_law 965 = .ok (.iaload, 1) := by decide +kernel
theorem dL_law_966 : decode cL_law 966 = .ok (.invokevirtual 130, 3) := by decide +kernel
theorem dL_law_969 : decode cL_law 969 = .ok (.if_icmp .eq 51, 3) := by decide +kernel
theorem dL_law_972 : decode cL_law 972 = .ok (.iconst 0, 1) := by decide +kernel
theorem dL_law_973 : decode cL_law 973 = .ok (.ireturn, 1) := by decide +kernel
theorem dL_law_974 : decode cL_law 974 = .ok (.aload_n 1, 1) := by decide +kernel
theorem dL_law_975 : decode cL_law 975 = .ok (.aload_n 0, 1) := by decide +kernel
theorem dL_law_976 : decode cL_law 976 = .ok (.iload_n 3, 1) := by decide +kernel
theorem dL_law_977 : decode cL_law 977 = .ok (.iconst 1, 1) := by decide +kernel
theorem dL_law_978 : decode cL_law 978 = .ok (.iadd, 1) := by decide +kernel
theorem dL_law_979 : decode cL_law 979 = .ok (.iaload, 1) := by decide +kernel
theorem dL_law_980 : decode cL_law 980 = .ok (.invokevirtual 131, 3) := by decide +kernel
theorem dL_law_983 : decode cL_law 983 = .ok (.aload_n 2, 1) := by decide +kernel
theorem dL_law_984 : decode cL_law 984 = .ok (.aload_n 0, 1) := by decide +kernel
theorem dL_law_985 : decode cL_law 985 = .ok (.iload_n 3, 1) := by decide +kernel
theorem dL_law_986 : decode cL_law 986 = .ok (.iconst 1, 1) := by decide +kernel
theorem dL_law_987 : decode cL_law 987 = .ok (.iadd, 1) := by decide +kernel
theorem dL_law_988 : decode cL_law 988 = .ok (.iaload, 1) := by decide +kernel
theorem dL_law_989 : decode cL_law 989 = .ok (.invokevirtual 134, 3) := by decide +kernel
theorem dL_law_992 : decode cL_law 992 = .ok (.if_icmp .eq 28, 3) := by decide +kernel
theorem dL_law_995 : decode cL_law 995 = .ok (.iconst 0, 1) := by decide +kernel
theorem dL_law_996 : decode cL_law 996 = .ok (.ireturn, 1) := by decide +kernel
theorem dL_law_997 : decode cL_law 997 = .ok (.aload_n 1, 1) := by decide +kernel
theorem dL_law_998 : decode cL_law 998 = .ok (.aload_n 0, 1) := by decide +kernel
theorem dL_law_999 : decode cL_law 999 = .ok (.iload_n 3, 1) := by decide +kernel
theorem dL_law_1000 : decode cL_law 1000 = .ok (.iconst 1, 1) := by decide +kernel
theorem dL_law_1001 : decode cL_law 1001 = .ok (.iadd, 1) := by decide +kernel
theorem dL_law_1002 : decode cL_law 1002 = .ok (.iaload, 1) := by decide +kernel
theorem dL_law_1003 : decode cL_law 1003 = .ok (.invokevirtual 135, 3) := by decide +kernel
theorem dL_law_1006 : decode cL_law 1006 = .ok (.aload_n 2, 1) := by decide +kernel
theorem dL_law_1007 : decode cL_law 1007 = .ok (.aload_n 0, 1) := by decide +kernel
theorem dL_law_1008 : decode cL_law 1008 = .ok (.iload_n 3, 1) := by decide +kernel
theorem dL_law_1009 : decode cL_law 1009 = .ok (.iconst 1, 1) := by decide +kernel
theorem dL_law_1010 : decode cL_law 1010 = .ok (.iadd, 1) := by decide +kernel
theorem dL_law_1011 : decode cL_law 1011 = .ok (.iaload, 1) := by decide +kernel
theorem dL_law_1012 : decode cL_law 1012 = .ok (.invokevirtual 138, 3) := by decide +kernel
theorem dL_law_1015 : decode cL_law 1015 = .ok (.if_icmp .eq 5, 3) := by decide +kernel
theorem dL_law_1018 : decode cL_law 1018 = .ok (.iconst 0, 1) := by decide +kernel
theorem dL_law_1019 : decode cL_law 1019 = .ok (.ireturn, 1) := by decide +kernel
theorem dL_law_1020 : decode cL_law 1020 = .ok (.iinc 3 5, 3) := by decide +kernel
theorem dL_law_1023 : decode cL_law 1023 = .ok (.goto (-1005), 3) := by decide +kernel
theorem dL_law_1026 : decode cL_law 1026 = .ok (.iconst 1, 1) := by decide +kernel
theorem dL_law_1027 : decode cL_law 1027 = .ok (.ireturn, 1) := by decide +kernel
