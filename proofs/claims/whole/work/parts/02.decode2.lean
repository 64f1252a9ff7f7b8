theorem dX12_back_3 : decode cX12_back 3 = .ok (.bipush 33, 2) := by decide +kernel
theorem dX12_back_5 : decode cX12_back 5 = .ok (.if_icmp .ge 21, 3) := by decide +kernel
theorem dX12_back_8 : decode cX12_back 8 = .ok (.aload_n 0, 1) := by decide +kernel
theorem dX12_back_9 : decode cX12_back 9 = .ok (.getfield 7, 3) := by decide +kernel
theorem dX12_back_12 : decode cX12_back 12 = .ok (.iload_n 1, 1) := by decide +kernel
theorem dX12_back_13 : decode cX12_back 13 = .ok (.aload_n 0, 1) := by decide +kernel
theorem dX12_back_14 : decode cX12_back 14 = .ok (.getfield 27, 3) := by decide +kernel
theorem dX12_back_17 : decode cX12_back 17 = .ok (.iload_n 1, 1) := by decide +kernel
theorem dX12_back_18 : decode cX12_back 18 = .ok (.iaload, 1) := by decide +kernel
theorem dX12_back_19 : decode cX12_back 19 = .ok (.iastore, 1) := by decide +kernel
theorem dX12_back_20 : decode cX12_back 20 = .ok (.iinc 1 1, 3) := by decide +kernel
theorem dX12_back_23 : decode cX12_back 23 = .ok (.goto (-21), 3) := by decide +kernel
theorem dX12_back_26 : decode cX12_back 26 = .ok (.return_, 1) := by decide +kernel
theorem dX12_power_0 : decode cX12_power 0 = .ok (.iconst 1, 1) := by decide +kernel
theorem dX12_power_1 : decode cX12_power 1 = .ok (.istore_n 2, 1) := by decide +kernel
theorem dX12_power_2 : decode cX12_power 2 = .ok (.iconst 0, 1) := by decide +kernel
theorem dX12_power_3 : decode cX12_power 3 = .ok (.istore_n 3, 1) := by decide +kernel
theorem dX12_power_4 : decode cX12_power 4 = .ok (.iload_n 3, 1) := by decide +kernel
theorem dX12_power_5 : decode cX12_power 5 = .ok (.iload_n 1, 1) := by decide +kernel
theorem dX12_power_6 : decode cX12_power 6 = .ok (.if_icmp .ge 13, 3) := by decide +kernel
theorem dX12_power_9 : decode cX12_power 9 = .ok (.iload_n 2, 1) := by decide +kernel
theorem dX12_power_10 : decode cX12_power 10 = .ok (.iload_n 0, 1) := by decide +kernel
theorem dX12_power_11 : decode cX12_power 11 = .ok (.imul, 1) := by decide +kernel
theorem dX12_power_12 : decode cX12_power 12 = .ok (.istore_n 2, 1) := by decide +kernel
theorem dX12_power_13 : decode cX12_power 13 = .ok (.iinc 3 1, 3) := by decide +kernel
theorem dX12_power_16 : decode cX12_power 16 = .ok (.goto (-12), 3) := by decide +kernel
theorem dX12_power_19 : decode cX12_power 19 = .ok (.iload_n 2, 1) := by decide +kernel
theorem dX12_power_20 : decode cX12_power 20 = .ok (.ireturn, 1) := by decide +kernel
theorem dX12_allDo_0 : decode cX12_allDo 0 = .ok (.iconst 0, 1) := by decide +kernel
theorem dX12_allDo_1 : decode cX12_allDo 1 = .ok (.istore_n 2, 1) := by decide +kernel
theorem dX12_allDo_2 : decode cX12_allDo 2 = .ok (.iload_n 2, 1) := by decide +kernel
theorem dX12_allDo_3 : decode cX12_allDo 3 = .ok (.aload_n 0, 1) := by decide +kernel
theorem dX12_allDo_4 : decode cX12_allDo 4 = .ok (.invokevirtual 52, 3) := by decide +kernel
theorem dX12_allDo_7 : decode cX12_allDo 7 = .ok (.if_icmp .ge 23, 3) := by decide +kernel
theorem dX12_allDo_10 : decode cX12_allDo 10 = .ok (.aload_n 0, 1) := by decide +kernel
theorem dX12_allDo_11 : decode cX12_allDo 11 = .ok (.getfield 7, 3) := by decide +kernel
theorem dX12_allDo_14 : decode cX12_allDo 14 = .ok (.bipush 7, 2) := by decide +kernel
theorem dX12_allDo_16 : decode cX12_allDo 16 = .ok (.iconst 4, 1) := by decide +kernel
theorem dX12_allDo_17 : decode cX12_allDo 17 = .ok (.iload_n 2, 1) := by decide +kernel
theorem dX12_allDo_18 : decode cX12_allDo 18 = .ok (.imul, 1) := by decide +kernel
theorem dX12_allDo_19 : decode cX12_allDo 19 = .ok (.iadd, 1) := by decide +kernel
theorem dX12_allDo_20 : decode cX12_allDo 20 = .ok (.iconst 3, 1) := by decide +kernel
theorem dX12_allDo_21 : decode cX12_allDo 21 = .ok (.iadd, 1) := by decide +kernel
theorem dX12_allDo_22 : decode cX12_allDo 22 = .ok (.iload_n 1, 1) := by decide +kernel
theorem dX12_allDo_23 : decode cX12_allDo 23 = .ok (.iastore, 1) := by decide +kernel
theorem dX12_allDo_24 : decode cX12_allDo 24 = .ok (.iinc 2 1, 3) := by decide +kernel
theorem dX12_allDo_27 : decode cX12_allDo 27 = .ok (.goto (-25), 3) := by decide +kernel
theorem dX12_allDo_30 : decode cX12_allDo 30 = .ok (.return_, 1) := by decide +kernel
theorem dX12_plan_0 : decode cX12_plan 0 = .ok (.iload_n 1, 1) := by decide +kernel
theorem dX12_plan_1 : decode cX12_plan 1 = .ok (.i2l, 1) := by decide +kernel
theorem dX12_plan_2 : decode cX12_plan 2 = .ok (.lconst 0, 1) := by decide +kernel
theorem dX12_plan_3 : decode cX12_plan 3 = .ok (.ldc2_w 142, 3) := by decide +kernel
theorem dX12_plan_6 : decode cX12_plan 6 = .ok (.invokestatic 56, 3) := by decide +kernel
theorem dX12_plan_9 : decode cX12_plan 9 = .ok (.ifCond .eq 8, 3) := by decide +kernel
theorem dX12_plan_12 : decode cX12_plan 12 = .ok (.iload_n 2, 1) := by decide +kernel
theorem dX12_plan_13 : decode cX12_plan 13 = .ok (.iconst (-1), 1) := by decide +kernel
theorem dX12_plan_14 : decode cX12_plan 14 = .ok (.if_icmp .ge 10, 3) := by decide +kernel
theorem dX12_plan_17 : decode cX12_plan 17 = .ok (.aload_n 0, 1) := by decide +kernel
theorem dX12_plan_18 : decode cX12_plan 18 = .ok (.bipush (-10), 2) := by decide +kernel
theorem dX12_plan_20 : decode cX12_plan 20 = .ok (.invokevirtual 64, 3) := by decide +kernel
theorem dX12_plan_23 : decode cX12_plan 23 = .ok (.ireturn, 1) := by decide +kernel
theorem dX12_plan_24 : decode cX12_plan 24 = .ok (.iconst (-1), 1) := by decide +kernel
theorem dX12_plan_25 : decode cX12_plan 25 = .ok (.istore_n 3, 1) := by decide +kernel
theorem dX12_plan_26 : decode cX12_plan 26 = .ok (.iconst (-1), 1) := by decide +kernel
theorem dX12_plan_27 : decode cX12_plan 27 = .ok (.istore 4, 2) := by decide +kernel
theorem dX12_plan_29 : decode cX12_plan 29 = .ok (.aload_n 0, 1) := by decide +kernel
theorem dX12_plan_30 : decode cX12_plan 30 = .ok (.invokevirtual 144, 3) := by decide +kernel
theorem dX12_plan_33 : decode cX12_plan 33 = .ok (.iconst 0, 1) := by decide +kernel
theorem dX12_plan_34 : decode cX12_plan 34 = .ok (.istore 5, 2) := by decide +kernel
theorem dX12_plan_36 : decode cX12_plan 36 = .ok (.iload 5, 2) := by decide +kernel
theorem dX12_plan_38 : decode cX12_plan 38 = .ok (.iconst 5, 1) := by decide +kernel
theorem dX12_plan_39 : decode cX12_plan 39 = .ok (.iload_n 1, 1) := by decide +kernel
theorem dX12_plan_40 : decode cX12_plan 40 = .ok (.invokestatic 147, 3) := by decide +kernel
theorem dX12_plan_43 : decode cX12_plan 43 = .ok (.if_icmp .ge 118, 3) := by decide +kernel
theorem dX12_plan_46 : decode cX12_plan 46 = .ok (.iconst 0, 1) := by decide +kernel
theorem dX12_plan_47 : decode cX12_plan 47 = .ok (.istore 6, 2) := by decide +kernel
theorem dX12_plan_49 : decode cX12_plan 49 = .ok (.iconst 0, 1) := by decide +kernel
theorem dX12_plan_50 : decode cX12_plan 50 = .ok (.istore 7, 2) := by decide +kernel
theorem dX12_plan_52 : decode cX12_plan 52 = .ok (.iload 7, 2) := by decide +kernel
theorem dX12_plan_54 : decode cX12_plan 54 = .ok (.iload_n 1, 1) := by decide +kernel
theorem dX12_plan_55 : decode cX12_plan 55 = .ok (.if_icmp .ge 43, 3) := by decide +kernel
theorem dX12_plan_58 : decode cX12_plan 58 = .ok (.iload 6, 2) := by decide +kernel
theorem dX12_plan_60 : decode cX12_plan 60 = .ok (.ifCond .ne 38, 3) := by decide +kernel
theorem dX12_plan_63 : decode cX12_plan 63 = .ok (.aload_n 0, 1) := by decide +kernel
theorem dX12_plan_64 : decode cX12_plan 64 = .ok (.iload 5, 2) := by decide +kernel
theorem dX12_plan_66 : decode cX12_plan 66 = .ok (.iconst 5, 1) := by decide +kernel
theorem dX12_plan_67 : decode cX12_plan 67 = .ok (.iload_n 1, 1) := by decide +kernel
theorem dX12_plan_68 : decode cX12_plan 68 = .ok (.iconst 1, 1) := by decide +kernel
theorem dX12_plan_69 : decode cX12_plan 69 = .ok (.isub, 1) := by decide +kernel
theorem dX12_plan_70 : decode cX12_plan 70 = .ok (.iload 7, 2) := by decide +kernel
theorem dX12_plan_72 : decode cX12_plan 72 = .ok (.isub, 1) := by decide +kernel
theorem dX12_plan_73 : decode cX12_plan 73 = .ok (.invokestatic 147, 3) := by decide +kernel
theorem dX12_plan_76 : decode cX12_plan 76 = .ok (.idiv, 1) := by decide +kernel
theorem dX12_plan_77 : decode cX12_plan 77 = .ok (.iconst 5, 1) := by decide +kernel
theorem dX12_plan_78 : decode cX12_plan 78 = .ok (.irem, 1) := by decide +kernel
theorem dX12_plan_79 : decode cX12_plan 79 = .ok (.invokevirtual 150, 3) := by decide +kernel
theorem dX12_plan_82 : decode cX12_plan 82 = .ok (.iload 6, 2) := by decide +kernel
theorem dX12_plan_84 : decode cX12_plan 84 = .ok (.aload_n 0, 1) := by decide +kernel
theorem dX12_plan_85 : decode cX12_plan 85 = .ok (.iconst 0, 1) := by decide +kernel
theorem dX12_plan_86 : decode cX12_plan 86 = .ok (.invokevirtual 135, 3) := by decide +kernel
theorem dX12_plan_89 : decode cX12_plan 89 = .ok (.iadd, 1) := by decide +kernel
theorem dX12_plan_90 : decode cX12_plan 90 = .ok (.istore 6, 2) := by decide +kernel
theorem dX12_plan_92 : decode cX12_plan 92 = .ok (.iinc 7 1, 3) := by decide +kernel
theorem dX12_plan_95 : decode cX12_plan 95 = .ok (.goto (-43), 3) := by decide +kernel
theorem dX12_plan_98 : decode cX12_plan 98 = .ok (.iload 6, 2) := by decide +kernel
theorem dX12_plan_100 : decode cX12_plan 100 = .ok (.ifCond .ne 18, 3) := by decide +kernel
theorem dX12_plan_103 : decode cX12_plan 103 = .ok (.aload_n 0, 1) := by decide +kernel
theorem dX12_plan_104 : decode cX12_plan 104 = .ok (.getfield 7, 3) := by decide +kernel
theorem dX12_plan_107 : decode cX12_plan 107 = .ok (.iconst 2, 1) := by decide +kernel
theorem dX12_plan_108 : decode cX12_plan 108 = .ok (.iaload, 1) := by decide +kernel
theorem dX12_plan_109 : decode cX12_plan 109 = .ok (.iload 4, 2) := by decide +kernel
theorem dX12_plan_111 : decode cX12_plan 111 = .ok (.if_icmp .le 7, 3) := by decide +kernel
theorem dX12_plan_114 : decode cX12_plan 114 = .ok (.iconst 1, 1) := by decide +kernel
theorem dX12_plan_115 : decode cX12_plan 115 = .ok (.goto 4, 3) := by decide +kernel
theorem dX12_plan_118 : decode cX12_plan 118 = .ok (.iconst 0, 1) := by decide +kernel
theorem dX12_plan_119 : decode cX12_plan 119 = .ok (.istore 7, 2) := by decide +kernel
theorem dX12_plan_121 : decode cX12_plan 121 = .ok (.iload 7, 2) := by decide +kernel
theorem dX12_plan_123 : decode cX12_plan 123 = .ok (.ifCond .eq 8, 3) := by decide +kernel
theorem dX12_plan_126 : decode cX12_plan 126 = .ok (.iload 5, 2) := by decide +kernel
theorem dX12_plan_128 : decode cX12_plan 128 = .ok (.goto 4, 3) := by decide +kernel
theorem dX12_plan_131 : decode cX12_plan 131 = .ok (.iload_n 3, 1) := by decide +kernel
theorem dX12_plan_132 : decode cX12_plan 132 = .ok (.istore_n 3, 1) := by decide +kernel
theorem dX12_plan_133 : decode cX12_plan 133 = .ok (.iload 7, 2) := by decide +kernel
theorem dX12_plan_135 : decode cX12_plan 135 = .ok (.ifCond .eq 12, 3) := by decide +kernel
theorem dX12_plan_138 : decode cX12_plan 138 = .ok (.aload_n 0, 1) := by decide +kernel
theorem dX12_plan_139 : decode cX12_plan 139 = .ok (.getfield 7, 3) := by decide +kernel
theorem dX12_plan_142 : decode cX12_plan 142 = .ok (.iconst 2, 1) := by decide +kernel
theorem dX12_plan_143 : decode cX12_plan 143 = .ok (.iaload, 1) := by decide +kernel
theorem dX12_plan_144 : decode cX12_plan 144 = .ok (.goto 5, 3) := by decide +kernel
theorem dX12_plan_147 : decode cX12_plan 147 = .ok (.iload 4, 2) := by decide +kernel
theorem dX12_plan_149 : decode cX12_plan 149 = .ok (.istore 4, 2) := by decide +kernel
theorem dX12_plan_151 : decode cX12_plan 151 = .ok (.aload_n 0, 1) := by decide +kernel
theorem dX12_plan_152 : decode cX12_plan 152 = .ok (.invokevirtual 153, 3) := by decide +kernel
theorem dX12_plan_155 : decode cX12_plan 155 = .ok (.iinc 5 1, 3) := by decide +kernel
theorem dX12_plan_158 : decode cX12_plan 158 = .ok (.goto (-122), 3) := by decide +kernel
theorem dX12_plan_161 : decode cX12_plan 161 = .ok (.iload_n 3, 1) := by decide +kernel
theorem dX12_plan_162 : decode cX12_plan 162 = .ok (.iconst (-1), 1) := by decide +kernel
theorem dX12_plan_163 : decode cX12_plan 163 = .ok (.if_icmp .eq 8, 3) := by decide +kernel
theorem dX12_plan_166 : decode cX12_plan 166 = .ok (.iload_n 2, 1) := by decide +kernel
theorem dX12_plan_167 : decode cX12_plan 167 = .ok (.iconst (-1), 1) := by decide +kernel
theorem dX12_plan_168 : decode cX12_plan 168 = .ok (.if_icmp .ne 6, 3) := by decide +kernel
theorem dX12_plan_171 : decode cX12_plan 171 = .ok (.iload 4, 2) := by decide +kernel
theorem dX12_plan_173 : decode cX12_plan 173 = .ok (.ireturn, 1) := by decide +kernel
theorem dX12_plan_174 : decode cX12_plan 174 = .ok (.iload_n 2, 1) := by decide +kernel
theorem dX12_plan_175 : decode cX12_plan 175 = .ok (.iload_n 1, 1) := by decide +kernel
theorem dX12_plan_176 : decode cX12_plan 176 = .ok (.if_icmp .ge 19, 3) := by decide +kernel
theorem dX12_plan_179 : decode cX12_plan 179 = .ok (.iload_n 3, 1) := by decide +kernel
theorem dX12_plan_180 : decode cX12_plan 180 = .ok (.iconst 5, 1) := by decide +kernel
theorem dX12_plan_181 : decode cX12_plan 181 = .ok (.iload_n 1, 1) := by decide +kernel
theorem dX12_plan_182 : decode cX12_plan 182 = .ok (.iconst 1, 1) := by decide +kernel
theorem dX12_plan_183 : decode cX12_plan 183 = .ok (.isub, 1) := by decide +kernel
theorem dX12_plan_184 : decode cX12_plan 184 = .ok (.iload_n 2, 1) := by decide +kernel
theorem dX12_plan_185 : decode cX12_plan 185 = .ok (.isub, 1) := by decide +kernel
theorem dX12_plan_186 : decode cX12_plan 186 = .ok (.invokestatic 147, 3) := by decide +kernel
theorem dX12_plan_189 : decode cX12_plan 189 = .ok (.idiv, 1) := by decide +kernel
theorem dX12_plan_190 : decode cX12_plan 190 = .ok (.iconst 5, 1) := by decide +kernel
theorem dX12_plan_191 : decode cX12_plan 191 = .ok (.irem, 1) := by decide +kernel
theorem dX12_plan_192 : decode cX12_plan 192 = .ok (.goto 5, 3) := by decide +kernel
theorem dX12_plan_195 : decode cX12_plan 195 = .ok (.bipush (-5), 2) := by decide +kernel
theorem dX12_plan_197 : decode cX12_plan 197 = .ok (.ireturn, 1) := by decide +kernel
theorem dX12_firstWant_0 : decode cX12_firstWant 0 = .ok (.iconst 0, 1) := by decide +kernel
theorem dX12_firstWant_1 : decode cX12_firstWant 1 = .ok (.istore_n 2, 1) := by decide +kernel
theorem dX12_firstWant_2 : decode cX12_firstWant 2 = .ok (.iload_n 2, 1) := by decide +kernel
theorem dX12_firstWant_3 : decode cX12_firstWant 3 = .ok (.iload_n 1, 1) := by decide +kernel
theorem dX12_firstWant_4 : decode cX12_firstWant 4 = .ok (.if_icmp .ge 19, 3) := by decide +kernel
theorem dX12_firstWant_7 : decode cX12_firstWant 7 = .ok (.aload_n 0, 1) := by decide +kernel
theorem dX12_firstWant_8 : decode cX12_firstWant 8 = .ok (.iconst 0, 1) := by decide +kernel
theorem dX12_firstWant_9 : decode cX12_firstWant 9 = .ok (.invokevirtual 135, 3) := by decide +kernel
theorem dX12_firstWant_12 : decode cX12_firstWant 12 = .ok (.ifCond .le 5, 3) := by decide +kernel
theorem dX12_firstWant_15 : decode cX12_firstWant 15 = .ok (.iload_n 2, 1) := by decide +kernel
theorem dX12_firstWant_16 : decode cX12_firstWant 16 = .ok (.ireturn, 1) := by decide +kernel
theorem dX12_firstWant_17 : decode cX12_firstWant 17 = .ok (.iinc 2 1, 3) := by decide +kernel
theorem dX12_firstWant_20 : decode cX12_firstWant 20 = .ok (.goto (-18), 3) := by decide +kernel
theorem dX12_firstWant_23 : decode cX12_firstWant 23 = .ok (.iconst (-1), 1) := by decide +kernel
theorem dX12_firstWant_24 : decode cX12_firstWant 24 = .ok (.ireturn, 1) := by decide +kernel
theorem dX12_want_0 : decode cX12_want 0 = .ok (.iload_n 1, 1) := by decide +kernel
theorem dX12_want_1 : decode cX12_want 1 = .ok (.i2l, 1) := by decide +kernel
theorem dX12_want_2 : decode cX12_want 2 = .ok (.lconst 0, 1) := by decide +kernel
theorem dX12_want_3 : decode cX12_want 3 = .ok (.ldc2_w 156, 3) := by decide +kernel
theorem dX12_want_6 : decode cX12_want 6 = .ok (.invokestatic 56, 3) := by decide +kernel
theorem dX12_want_9 : decode cX12_want 9 = .ok (.ifCond .ne 10, 3) := by decide +kernel
theorem dX12_want_12 : decode cX12_want 12 = .ok (.aload_n 0, 1) := by decide +kernel
theorem dX12_want_13 : decode cX12_want 13 = .ok (.bipush (-2), 2) := by decide +kernel
theorem dX12_want_15 : decode cX12_want 15 = .ok (.invokevirtual 64, 3) := by decide +kernel
theorem dX12_want_18 : decode cX12_want 18 = .ok (.ireturn, 1) := by decide +kernel
theorem dX12_want_19 : decode cX12_want 19 = .ok (.aload_n 0, 1) := by decide +kernel
theorem dX12_want_20 : decode cX12_want 20 = .ok (.invokevirtual 144, 3) := by decide +kernel
theorem dX12_want_23 : decode cX12_want 23 = .ok (.aload_n 0, 1) := by decide +kernel
theorem dX12_want_24 : decode cX12_want 24 = .ok (.iload_n 1, 1) := by decide +kernel
theorem dX12_want_25 : decode cX12_want 25 = .ok (.invokevirtual 158, 3) := by decide +kernel
theorem dX12_want_28 : decode cX12_want 28 = .ok (.istore_n 2, 1) := by decide +kernel
theorem dX12_want_29 : decode cX12_want 29 = .ok (.aload_n 0, 1) := by decide +kernel
theorem dX12_want_30 : decode cX12_want 30 = .ok (.invokevirtual 153, 3) := by decide +kernel
theorem dX12_want_33 : decode cX12_want 33 = .ok (.iload_n 2, 1) := by decide +kernel
theorem dX12_want_34 : decode cX12_want 34 = .ok (.ireturn, 1) := by decide +kernel
theorem dX12_held_0 : decode cX12_held 0 = .ok (.iload_n 1, 1) := by decide +kernel
theorem dX12_held_1 : decode cX12_held 1 = .ok (.i2l, 1) := by decide +kernel
theorem dX12_held_2 : decode cX12_held 2 = .ok (.lconst 0, 1) := by decide +kernel
theorem dX12_held_3 : decode cX12_held 3 = .ok (.ldc2_w 156, 3) := by decide +kernel
theorem dX12_held_6 : decode cX12_held 6 = .ok (.invokestatic 56, 3) := by decide +kernel
theorem dX12_held_9 : decode cX12_held 9 = .ok (.ifCond .ne 10, 3) := by decide +kernel
theorem dX12_held_12 : decode cX12_held 12 = .ok (.aload_n 0, 1) := by decide +kernel
theorem dX12_held_13 : decode cX12_held 13 = .ok (.bipush (-10), 2) := by decide +kernel
theorem dX12_held_15 : decode cX12_held 15 = .ok (.invokevirtual 64, 3) := by decide +kernel
theorem dX12_held_18 : decode cX12_held 18 = .ok (.ireturn, 1) := by decide +kernel
theorem dX12_held_19 : decode cX12_held 19 = .ok (.aload_n 0, 1) := by decide +kernel
theorem dX12_held_20 : decode cX12_held 20 = .ok (.invokevirtual 144, 3) := by decide +kernel
theorem dX12_held_23 : decode cX12_held 23 = .ok (.iconst 0, 1) := by decide +kernel
theorem dX12_held_24 : decode cX12_held 24 = .ok (.istore_n 2, 1) := by decide +kernel
theorem dX12_held_25 : decode cX12_held 25 = .ok (.iconst 0, 1) := by decide +kernel
theorem dX12_held_26 : decode cX12_held 26 = .ok (.istore_n 3, 1) := by decide +kernel
theorem dX12_held_27 : decode cX12_held 27 = .ok (.iload_n 3, 1) := by decide +kernel
theorem dX12_held_28 : decode cX12_held 28 = .ok (.ifCond .ne 51, 3) := by decide +kernel
theorem dX12_held_31 : decode cX12_held 31 = .ok (.iload_n 2, 1) := by decide +kernel
theorem dX12_held_32 : decode cX12_held 32 = .ok (.sipush 1000, 3) := by decide +kernel
theorem dX12_held_35 : decode cX12_held 35 = .ok (.if_icmp .ge 44, 3) := by decide +kernel
theorem dX12_held_38 : decode cX12_held 38 = .ok (.aload_n 0, 1) := by decide +kernel
theorem dX12_held_39 : decode cX12_held 39 = .ok (.getfield 7, 3) := by decide +kernel
theorem dX12_held_42 : decode cX12_held 42 = .ok (.iconst 2, 1) := by decide +kernel
theorem dX12_held_43 : decode cX12_held 43 = .ok (.iload_n 2, 1) := by decide +kernel
theorem dX12_held_44 : decode cX12_held 44 = .ok (.iastore, 1) := by decide +kernel
theorem dX12_held_45 : decode cX12_held 45 = .ok (.aload_n 0, 1) := by decide +kernel
theorem dX12_held_46 : decode cX12_held 46 = .ok (.iload_n 1, 1) := by decide +kernel
theorem dX12_held_47 : decode cX12_held 47 = .ok (.invokevirtual 158, 3) := by decide +kernel
theorem dX12_held_50 : decode cX12_held 50 = .ok (.iconst (-1), 1) := by decide +kernel
theorem dX12_held_51 : decode cX12_held 51 = .ok (.if_icmp .ne 7, 3) := by decide +kernel
theorem dX12_held_54 : decode cX12_held 54 = .ok (.iconst 1, 1) := by decide +kernel
theorem dX12_held_55 : decode cX12_held 55 = .ok (.goto 4, 3) := by decide +kernel
theorem dX12_held_58 : decode cX12_held 58 = .ok (.iconst 0, 1) := by decide +kernel
theorem dX12_held_59 : decode cX12_held 59 = .ok (.istore_n 3, 1) := by decide +kernel
theorem dX12_held_60 : decode cX12_held 60 = .ok (.aload_n 0, 1) := by decide +kernel
theorem dX12_held_61 : decode cX12_held 61 = .ok (.invokevirtual 153, 3) := by decide +kernel
theorem dX12_held_64 : decode cX12_held 64 = .ok (.iload_n 2, 1) := by decide +kernel
theorem dX12_held_65 : decode cX12_held 65 = .ok (.iload_n 3, 1) := by decide +kernel
theorem dX12_held_66 : decode cX12_held 66 = .ok (.ifCond .eq 7, 3) := by decide +kernel
theorem dX12_held_69 : decode cX12_held 69 = .ok (.iconst 0, 1) := by decide +kernel
theorem dX12_held_70 : decode cX12_held 70 = .ok (.goto 4, 3) := by decide +kernel
theorem dX12_held_73 : decode cX12_held 73 = .ok (.iconst 1, 1) := by decide +kernel
theorem dX12_held_74 : decode cX12_held 74 = .ok (.iadd, 1) := by decide +kernel
theorem dX12_held_75 : decode cX12_held 75 = .ok (.istore_n 2, 1) := by decide +kernel
theorem dX12_held_76 : decode cX12_held 76 = .ok (.goto (-49), 3) := by decide +kernel
theorem dX12_held_79 : decode cX12_held 79 = .ok (.iload_n 3, 1) := by decide +kernel
theorem dX12_held_80 : decode cX12_held 80 = .ok (.ifCond .eq 7, 3) := by decide +kernel
theorem dX12_held_83 : decode cX12_held 83 = .ok (.iload_n 2, 1) := by decide +kernel
theorem dX12_held_84 : decode cX12_held 84 = .ok (.goto 4, 3) := by decide +kernel
theorem dX12_held_87 : decode cX12_held 87 = .ok (.iconst (-1), 1) := by decide +kernel
theorem dX12_held_88 : decode cX12_held 88 = .ok (.ireturn, 1) := by decide +kernel
theorem dX12_tell_0 : decode cX12_tell 0 = .ok (.lload_n 1, 1) := by decide +kernel
theorem dX12_tell_1 : decode cX12_tell 1 = .ok (.lstore 5, 2) := by decide +kernel
theorem dX12_tell_3 : decode cX12_tell 3 = .ok (.lload_n 3, 1) := by decide +kernel
theorem dX12_tell_4 : decode cX12_tell 4 = .ok (.lstore 7, 2) := by decide +kernel
theorem dX12_tell_6 : decode cX12_tell 6 = .ok (.lload 7, 2) := by decide +kernel
theorem dX12_tell_8 : decode cX12_tell 8 = .ok (.lconst 0, 1) := by decide +kernel
theorem dX12_tell_9 : decode cX12_tell 9 = .ok (.lcmp, 1) := by decide +kernel
theorem dX12_tell_10 : decode cX12_tell 10 = .ok (.ifCond .eq 21, 3) := by decide +kernel
theorem dX12_tell_13 : decode cX12_tell 13 = .ok (.lload 5, 2) := by decide +kernel
theorem dX12_tell_15 : decode cX12_tell 15 = .ok (.lload 7, 2) := by decide +kernel
theorem dX12_tell_17 : decode cX12_tell 17 = .ok (.lrem, 1) := by decide +kernel
theorem dX12_tell_18 : decode cX12_tell 18 = .ok (.lstore 9, 2) := by decide +kernel
theorem dX12_tell_20 : decode cX12_tell 20 = .ok (.lload 7, 2) := by decide +kernel
theorem dX12_tell_22 : decode cX12_tell 22 = .ok (.lstore 5, 2) := by decide +kernel
theorem dX12_tell_24 : decode cX12_tell 24 = .ok (.lload 9, 2) := by decide +kernel
theorem dX12_tell_26 : decode cX12_tell 26 = .ok (.lstore 7, 2) := by decide +kernel
theorem dX12_tell_28 : decode cX12_tell 28 = .ok (.goto (-22), 3) := by decide +kernel
theorem dX12_tell_31 : decode cX12_tell 31 = .ok (.aload_n 0, 1) := by decide +kernel
theorem dX12_tell_32 : decode cX12_tell 32 = .ok (.lload_n 1, 1) := by decide +kernel
theorem dX12_tell_33 : decode cX12_tell 33 = .ok (.lload 5, 2) := by decide +kernel
theorem dX12_tell_35 : decode cX12_tell 35 = .ok (.ldiv, 1) := by decide +kernel
theorem dX12_tell_36 : decode cX12_tell 36 = .ok (.putfield 161, 3) := by decide +kernel
theorem dX12_tell_39 : decode cX12_tell 39 = .ok (.aload_n 0, 1) := by decide +kernel
theorem dX12_tell_40 : decode cX12_tell 40 = .ok (.lload_n 3, 1) := by decide +kernel
theorem dX12_tell_41 : decode cX12_tell 41 = .ok (.lload 5, 2) := by decide +kernel
theorem dX12_tell_43 : decode cX12_tell 43 = .ok (.ldiv, 1) := by decide +kernel
theorem dX12_tell_44 : decode cX12_tell 44 = .ok (.putfield 23, 3) := by decide +kernel
theorem dX12_tell_47 : decode cX12_tell 47 = .ok (.return_, 1) := by decide +kernel
theorem dX12_noons_0 : decode cX12_noons 0 = .ok (.iconst 0, 1) := by decide +kernel
theorem dX12_noons_1 : decode cX12_noons 1 = .ok (.istore_n 2, 1) := by decide +kernel
theorem dX12_noons_2 : decode cX12_noons 2 = .ok (.iconst 0, 1) := by decide +kernel
theorem dX12_noons_3 : decode cX12_noons 3 = .ok (.istore_n 3, 1) := by decide +kernel
theorem dX12_noons_4 : decode cX12_noons 4 = .ok (.iload_n 3, 1) := by decide +kernel
theorem dX12_noons_5 : decode cX12_noons 5 = .ok (.iload_n 1, 1) := by decide +kernel
theorem dX12_noons_6 : decode cX12_noons 6 = .ok (.if_icmp .ge 32, 3) := by decide +kernel
theorem dX12_noons_9 : decode cX12_noons 9 = .ok (.iload_n 2, 1) := by decide +kernel
theorem dX12_noons_10 : decode cX12_noons 10 = .ok (.aload_n 0, 1) := by decide +kernel
theorem dX12_noons_11 : decode cX12_noons 11 = .ok (.aload_n 0, 1) := by decide +kernel
theorem dX12_noons_12 : decode cX12_noons 12 = .ok (.getfield 7, 3) := by decide +kernel
theorem dX12_noons_15 : decode cX12_noons 15 = .ok (.iconst 1, 1) := by decide +kernel
theorem dX12_noons_16 : decode cX12_noons 16 = .ok (.iaload, 1) := by decide +kernel
theorem dX12_noons_17 : decode cX12_noons 17 = .ok (.iload_n 3, 1) := by decide +kernel
theorem dX12_noons_18 : decode cX12_noons 18 = .ok (.iadd, 1) := by decide +kernel
theorem dX12_noons_19 : decode cX12_noons 19 = .ok (.invokevirtual 93, 3) := by decide +kernel
theorem dX12_noons_22 : decode cX12_noons 22 = .ok (.ifCond .eq 7, 3) := by decide +kernel
theorem dX12_noons_25 : decode cX12_noons 25 = .ok (.iconst 1, 1) := by decide +kernel
theorem dX12_noons_26 : decode cX12_noons 26 = .ok (.goto 4, 3) := by decide +kernel
theorem dX12_noons_29 : decode cX12_noons 29 = .ok (.iconst 0, 1) := by decide +kernel
theorem dX12_noons_30 : decode cX12_noons 30 = .ok (.iadd, 1) := by decide +kernel
theorem dX12_noons_31 : decode cX12_noons 31 = .ok (.istore_n 2, 1) := by decide +kernel
theorem dX12_noons_32 : decode cX12_noons 32 = .ok (.iinc 3 1, 3) := by decide +kernel
theorem dX12_noons_35 : decode cX12_noons 35 = .ok (.goto (-31), 3) := by decide +kernel
theorem dX12_noons_38 : decode cX12_noons 38 = .ok (.iload_n 2, 1) := by decide +kernel
theorem dX12_noons_39 : decode cX12_noons 39 = .ok (.ireturn, 1) := by decide +kernel
theorem dX12_isFed_0 : decode cX12_isFed 0 = .ok (.iconst 0, 1) := by decide +kernel
theorem dX12_isFed_1 : decode cX12_isFed 1 = .ok (.istore_n 3, 1) := by decide +kernel
theorem dX12_isFed_2 : decode cX12_isFed 2 = .ok (.iconst 1, 1) := by decide +kernel
theorem dX12_isFed_3 : decode cX12_isFed 3 = .ok (.istore 4, 2) := by decide +kernel
theorem dX12_isFed_5 : decode cX12_isFed 5 = .ok (.iconst 0, 1) := by decide +kernel
theorem dX12_isFed_6 : decode cX12_isFed 6 = .ok (.istore 5, 2) := by decide +kernel
theorem dX12_isFed_8 : decode cX12_isFed 8 = .ok (.iload 5, 2) := by decide +kernel
theorem dX12_isFed_10 : decode cX12_isFed 10 = .ok (.iload_n 1, 1) := by decide +kernel
theorem dX12_isFed_11 : decode cX12_isFed 11 = .ok (.if_icmp .ge 72, 3) := by decide +kernel
theorem dX12_isFed_14 : decode cX12_isFed 14 = .ok (.iload 4, 2) := by decide +kernel
theorem dX12_isFed_16 : decode cX12_isFed 16 = .ok (.ifCond .eq 67, 3) := by decide +kernel
theorem dX12_isFed_19 : decode cX12_isFed 19 = .ok (.aload_n 0, 1) := by decide +kernel
theorem dX12_isFed_20 : decode cX12_isFed 20 = .ok (.aload_n 0, 1) := by decide +kernel
theorem dX12_isFed_21 : decode cX12_isFed 21 = .ok (.getfield 7, 3) := by decide +kernel
theorem dX12_isFed_24 : decode cX12_isFed 24 = .ok (.iconst 1, 1) := by decide +kernel
theorem dX12_isFed_25 : decode cX12_isFed 25 = .ok (.iaload, 1) := by decide +kernel
theorem dX12_isFed_26 : decode cX12_isFed 26 = .ok (.invokevirtual 93, 3) := by decide +kernel
theorem dX12_isFed_29 : decode cX12_isFed 29 = .ok (.istore 6, 2) := by decide +kernel
theorem dX12_isFed_31 : decode cX12_isFed 31 = .ok (.aload_n 0, 1) := by decide +kernel
theorem dX12_isFed_32 : decode cX12_isFed 32 = .ok (.iload 6, 2) := by decide +kernel
theorem dX12_isFed_34 : decode cX12_isFed 34 = .ok (.ifCond .eq 16, 3) := by decide +kernel
theorem dX12_isFed_37 : decode cX12_isFed 37 = .ok (.iload_n 2, 1) := by decide +kernel
theorem dX12_isFed_38 : decode cX12_isFed 38 = .ok (.iload_n 3, 1) := by decide +kernel
theorem dX12_isFed_39 : decode cX12_isFed 39 = .ok (.ishr, 1) := by decide +kernel
theorem dX12_isFed_40 : decode cX12_isFed 40 = .ok (.iconst 1, 1) := by decide +kernel
theorem dX12_isFed_41 : decode cX12_isFed 41 = .ok (.iand, 1) := by decide +kernel
theorem dX12_isFed_42 : decode cX12_isFed 42 = .ok (.iconst 1, 1) := by decide +kernel
theorem dX12_isFed_43 : decode cX12_isFed 43 = .ok (.if_icmp .ne 7, 3) := by decide +kernel
theorem dX12_isFed_46 : decode cX12_isFed 46 = .ok (.iconst 1, 1) := by decide +kernel
theorem dX12_isFed_47 : decode cX12_isFed 47 = .ok (.goto 4, 3) := by decide +kernel
theorem dX12_isFed_50 : decode cX12_isFed 50 = .ok (.iconst 0, 1) := by decide +kernel
theorem dX12_isFed_51 : decode cX12_isFed 51 = .ok (.invokevirtual 135, 3) := by decide +kernel
theorem dX12_isFed_54 : decode cX12_isFed 54 = .ok (.ifCond .ne 7, 3) := by decide +kernel
theorem dX12_isFed_57 : decode cX12_isFed 57 = .ok (.iconst 1, 1) := by decide +kernel
theorem dX12_isFed_58 : decode cX12_isFed 58 = .ok (.goto 4, 3) := by decide +kernel
theorem dX12_isFed_61 : decode cX12_isFed 61 = .ok (.iconst 0, 1) := by decide +kernel
theorem dX12_isFed_62 : decode cX12_isFed 62 = .ok (.istore 4, 2) := by decide +kernel
theorem dX12_isFed_64 : decode cX12_isFed 64 = .ok (.iload_n 3, 1) := by decide +kernel
theorem dX12_isFed_65 : decode cX12_isFed 65 = .ok (.iload 6, 2) := by decide +kernel
theorem dX12_isFed_67 : decode cX12_isFed 67 = .ok (.ifCond .eq 7, 3) := by decide +kernel
theorem dX12_isFed_70 : decode cX12_isFed 70 = .ok (.iconst 1, 1) := by decide +kernel
theorem dX12_isFed_71 : decode cX12_isFed 71 = .ok (.goto 4, 3) := by decide +kernel
theorem dX12_isFed_74 : decode cX12_isFed 74 = .ok (.iconst 0, 1) := by decide +kernel
theorem dX12_isFed_75 : decode cX12_isFed 75 = .ok (.iadd, 1) := by decide +kernel
theorem dX12_isFed_76 : decode cX12_isFed 76 = .ok (.istore_n 3, 1) := by decide +kernel
theorem dX12_isFed_77 : decode cX12_isFed 77 = .ok (.iinc 5 1, 3) := by decide +kernel
theorem dX12_isFed_80 : decode cX12_isFed 80 = .ok (.goto (-72), 3) := by decide +kernel
theorem dX12_isFed_83 : decode cX12_isFed 83 = .ok (.iload 4, 2) := by decide +kernel
theorem dX12_isFed_85 : decode cX12_isFed 85 = .ok (.ireturn, 1) := by decide +kernel
theorem dX12_ways_0 : decode cX12_ways 0 = .ok (.lconst 1, 1) := by decide +kernel
theorem dX12_ways_1 : decode cX12_ways 1 = .ok (.lstore_n 2, 1) := by decide +kernel
theorem dX12_ways_2 : decode cX12_ways 2 = .ok (.iconst 0, 1) := by decide +kernel
theorem dX12_ways_3 : decode cX12_ways 3 = .ok (.istore 4, 2) := by decide +kernel
theorem dX12_ways_5 : decode cX12_ways 5 = .ok (.iload 4, 2) := by decide +kernel
theorem dX12_ways_7 : decode cX12_ways 7 = .ok (.iload_n 1, 1) := by decide +kernel
theorem dX12_ways_8 : decode cX12_ways 8 = .ok (.if_icmp .ge 14, 3) := by decide +kernel
theorem dX12_ways_11 : decode cX12_ways 11 = .ok (.lload_n 2, 1) := by decide +kernel
theorem dX12_ways_12 : decode cX12_ways 12 = .ok (.iload_n 0, 1) := by decide +kernel
theorem dX12_ways_13 : decode cX12_ways 13 = .ok (.i2l, 1) := by decide +kernel
theorem dX12_ways_14 : decode cX12_ways 14 = .ok (.lmul, 1) := by decide +kernel
theorem dX12_ways_15 : decode cX12_ways 15 = .ok (.lstore_n 2, 1) := by decide +kernel
theorem dX12_ways_16 : decode cX12_ways 16 = .ok (.iinc 4 1, 3) := by decide +kernel
theorem dX12_ways_19 : decode cX12_ways 19 = .ok (.goto (-14), 3) := by decide +kernel
theorem dX12_ways_22 : decode cX12_ways 22 = .ok (.lload_n 2, 1) := by decide +kernel
theorem dX12_ways_23 : decode cX12_ways 23 = .ok (.lreturn, 1) := by decide +kernel
theorem dX12_chance_0 : decode cX12_chance 0 = .ok (.iload_n 1, 1) := by decide +kernel
theorem dX12_chance_1 : decode cX12_chance 1 = .ok (.i2l, 1) := by decide +kernel
theorem dX12_chance_2 : decode cX12_chance 2 = .ok (.lconst 0, 1) := by decide +kernel
theorem dX12_chance_3 : decode cX12_chance 3 = .ok (.ldc2_w 164, 3) := by decide +kernel
theorem dX12_chance_6 : decode cX12_chance 6 = .ok (.invokestatic 56, 3) := by decide +kernel
theorem dX12_chance_9 : decode cX12_chance 9 = .ok (.ifCond .eq 15, 3) := by decide +kernel
theorem dX12_chance_12 : decode cX12_chance 12 = .ok (.iload_n 2, 1) := by decide +kernel
theorem dX12_chance_13 : decode cX12_chance 13 = .ok (.i2l, 1) := by decide +kernel
theorem dX12_chance_14 : decode cX12_chance 14 = .ok (.lconst 0, 1) := by decide +kernel
theorem dX12_chance_15 : decode cX12_chance 15 = .ok (.ldc2_w 166, 3) := by decide +kernel
theorem dX12_chance_18 : decode cX12_chance 18 = .ok (.invokestatic 56, 3) := by decide +kernel
theorem dX12_chance_21 : decode cX12_chance 21 = .ok (.ifCond .ne 10, 3) := by decide +kernel
theorem dX12_chance_24 : decode cX12_chance 24 = .ok (.aload_n 0, 1) := by decide +kernel
theorem dX12_chance_25 : decode cX12_chance 25 = .ok (.bipush (-2), 2) := by decide +kernel
theorem dX12_chance_27 : decode cX12_chance 27 = .ok (.invokevirtual 64, 3) := by decide +kernel
theorem dX12_chance_30 : decode cX12_chance 30 = .ok (.ireturn, 1) := by decide +kernel
theorem dX12_chance_31 : decode cX12_chance 31 = .ok (.aload_n 0, 1) := by decide +kernel
theorem dX12_chance_32 : decode cX12_chance 32 = .ok (.iload_n 1, 1) := by decide +kernel
theorem dX12_chance_33 : decode cX12_chance 33 = .ok (.invokevirtual 168, 3) := by decide +kernel
theorem dX12_chance_36 : decode cX12_chance 36 = .ok (.istore_n 3, 1) := by decide +kernel
theorem dX12_chance_37 : decode cX12_chance 37 = .ok (.iload_n 3, 1) := by decide +kernel
theorem dX12_chance_38 : decode cX12_chance 38 = .ok (.bipush 8, 2) := by decide +kernel
theorem dX12_chance_40 : decode cX12_chance 40 = .ok (.if_icmp .le 8, 3) := by decide +kernel
theorem dX12_chance_43 : decode cX12_chance 43 = .ok (.aload_n 0, 1) := by decide +kernel
theorem dX12_chance_44 : decode cX12_chance 44 = .ok (.invokevirtual 139, 3) := by decide +kernel
theorem dX12_chance_47 : decode cX12_chance 47 = .ok (.ireturn, 1) := by decide +kernel
theorem dX12_chance_48 : decode cX12_chance 48 = .ok (.lconst 0, 1) := by decide +kernel
theorem dX12_chance_49 : decode cX12_chance 49 = .ok (.lstore 4, 2) := by decide +kernel
theorem dX12_chance_51 : decode cX12_chance 51 = .ok (.aload_n 0, 1) := by decide +kernel
theorem dX12_chance_52 : decode cX12_chance 52 = .ok (.invokevirtual 144, 3) := by decide +kernel
theorem dX12_chance_55 : decode cX12_chance 55 = .ok (.iconst 0, 1) := by decide +kernel
theorem dX12_chance_56 : decode cX12_chance 56 = .ok (.istore 6, 2) := by decide +kernel
theorem dX12_chance_58 : decode cX12_chance 58 = .ok (.iload 6, 2) := by decide +kernel
theorem dX12_chance_60 : decode cX12_chance 60 = .ok (.iconst 1, 1) := by decide +kernel
theorem dX12_chance_61 : decode cX12_chance 61 = .ok (.iload_n 3, 1) := by decide +kernel
theorem dX12_chance_62 : decode cX12_chance 62 = .ok (.ishl, 1) := by decide +kernel
theorem dX12_chance_63 : decode cX12_chance 63 = .ok (.if_icmp .ge 60, 3) := by decide +kernel
theorem dX12_chance_66 : decode cX12_chance 66 = .ok (.aload_n 0, 1) := by decide +kernel
theorem dX12_chance_67 : decode cX12_chance 67 = .ok (.iload_n 1, 1) := by decide +kernel
theorem dX12_chance_68 : decode cX12_chance 68 = .ok (.iload 6, 2) := by decide +kernel
theorem dX12_chance_70 : decode cX12_chance 70 = .ok (.invokevirtual 171, 3) := by decide +kernel
theorem dX12_chance_73 : decode cX12_chance 73 = .ok (.istore 7, 2) := by decide +kernel
theorem dX12_chance_75 : decode cX12_chance 75 = .ok (.aload_n 0, 1) := by decide +kernel
theorem dX12_chance_76 : decode cX12_chance 76 = .ok (.invokevirtual 153, 3) := by decide +kernel
theorem dX12_chance_79 : decode cX12_chance 79 = .ok (.lload 4, 2) := by decide +kernel
theorem dX12_chance_81 : decode cX12_chance 81 = .ok (.iload 7, 2) := by decide +kernel
theorem dX12_chance_83 : decode cX12_chance 83 = .ok (.ifCond .eq 30, 3) := by decide +kernel
theorem dX12_chance_86 : decode cX12_chance 86 = .ok (.iload_n 2, 1) := by decide +kernel
theorem dX12_chance_87 : decode cX12_chance 87 = .ok (.iload 6, 2) := by decide +kernel
theorem dX12_chance_89 : decode cX12_chance 89 = .ok (.invokestatic 175, 3) := by decide +kernel
theorem dX12_chance_92 : decode cX12_chance 92 = .ok (.invokestatic 178, 3) := by decide +kernel
theorem dX12_chance_95 : decode cX12_chance 95 = .ok (.bipush 10, 2) := by decide +kernel
theorem dX12_chance_97 : decode cX12_chance 97 = .ok (.iload_n 2, 1) := by decide +kernel
theorem dX12_chance_98 : decode cX12_chance 98 = .ok (.isub, 1) := by decide +kernel
theorem dX12_chance_99 : decode cX12_chance 99 = .ok (.iload_n 3, 1) := by decide +kernel
theorem dX12_chance_100 : decode cX12_chance 100 = .ok (.iload 6, 2) := by decide +kernel
theorem dX12_chance_102 : decode cX12_chance 102 = .ok (.invokestatic 175, 3) := by decide +kernel
theorem dX12_chance_105 : decode cX12_chance 105 = .ok (.isub, 1) := by decide +kernel
theorem dX12_chance_106 : decode cX12_chance 106 = .ok (.invokestatic 178, 3) := by decide +kernel
theorem dX12_chance_109 : decode cX12_chance 109 = .ok (.lmul, 1) := by decide +kernel
theorem dX12_chance_110 : decode cX12_chance 110 = .ok (.goto 4, 3) := by decide +kernel
theorem dX12_chance_113 : decode cX12_chance 113 = .ok (.lconst 0, 1) := by decide +kernel
theorem dX12_chance_114 : decode cX12_chance 114 = .ok (.ladd, 1) := by decide +kernel
theorem dX12_chance_115 : decode cX12_chance 115 = .ok (.lstore 4, 2) := by decide +kernel
theorem dX12_chance_117 : decode cX12_chance 117 = .ok (.iinc 6 1, 3) := by decide +kernel
theorem dX12_chance_120 : decode cX12_chance 120 = .ok (.goto (-62), 3) := by decide +kernel
theorem dX12_chance_123 : decode cX12_chance 123 = .ok (.aload_n 0, 1) := by decide +kernel
theorem dX12_chance_124 : decode cX12_chance 124 = .ok (.lload 4, 2) := by decide +kernel
theorem dX12_chance_126 : decode cX12_chance 126 = .ok (.bipush 10, 2) := by decide +kernel
theorem dX12_chance_128 : decode cX12_chance 128 = .ok (.iload_n 3, 1) := by decide +kernel
theorem dX12_chance_129 : decode cX12_chance 129 = .ok (.invokestatic 178, 3) := by decide +kernel
theorem dX12_chance_132 : decode cX12_chance 132 = .ok (.invokevirtual 182, 3) := by decide +kernel
theorem dX12_chance_135 : decode cX12_chance 135 = .ok (.iconst 1, 1) := by decide +kernel
theorem dX12_chance_136 : decode cX12_chance 136 = .ok (.ireturn, 1) := by decide +kernel
theorem dX12_allRemember_0 : decode cX12_allRemember 0 = .ok (.iconst 0, 1) := by decide +kernel
theorem dX12_allRemember_1 : decode cX12_allRemember 1 = .ok (.istore_n 3, 1) := by decide +kernel
theorem dX12_allRemember_2 : decode cX12_allRemember 2 = .ok (.iload_n 3, 1) := by decide +kernel
theorem dX12_allRemember_3 : decode cX12_allRemember 3 = .ok (.aload_n 0, 1) := by decide +kernel
theorem dX12_allRemember_4 : decode cX12_allRemember 4 = .ok (.invokevirtual 52, 3) := by decide +kernel
theorem dX12_allRemember_7 : decode cX12_allRemember 7 = .ok (.if_icmp .ge 61, 3) := by decide +kernel
theorem dX12_allRemember_10 : decode cX12_allRemember 10 = .ok (.bipush 7, 2) := by decide +kernel
theorem dX12_allRemember_12 : decode cX12_allRemember 12 = .ok (.iconst 4, 1) := by decide +kernel
theorem dX12_allRemember_13 : decode cX12_allRemember 13 = .ok (.iload_n 3, 1) := by decide +kernel
theorem dX12_allRemember_14 : decode cX12_allRemember 14 = .ok (.imul, 1) := by decide +kernel
theorem dX12_allRemember_15 : decode cX12_allRemember 15 = .ok (.iadd, 1) := by decide +kernel
theorem dX12_allRemember_16 : decode cX12_allRemember 16 = .ok (.iconst 3, 1) := by decide +kernel
theorem dX12_allRemember_17 : decode cX12_allRemember 17 = .ok (.iadd, 1) := by decide +kernel
theorem dX12_allRemember_18 : decode cX12_allRemember 18 = .ok (.istore 4, 2) := by decide +kernel
theorem dX12_allRemember_20 : decode cX12_allRemember 20 = .ok (.aload_n 0, 1) := by decide +kernel
theorem dX12_allRemember_21 : decode cX12_allRemember 21 = .ok (.getfield 7, 3) := by decide +kernel
theorem dX12_allRemember_24 : decode cX12_allRemember 24 = .ok (.iload 4, 2) := by decide +kernel
theorem dX12_allRemember_26 : decode cX12_allRemember 26 = .ok (.iload_n 2, 1) := by decide +kernel
theorem dX12_allRemember_27 : decode cX12_allRemember 27 = .ok (.iload_n 3, 1) := by decide +kernel
theorem dX12_allRemember_28 : decode cX12_allRemember 28 = .ok (.ishr, 1) := by decide +kernel
theorem dX12_allRemember_29 : decode cX12_allRemember 29 = .ok (.iconst 1, 1) := by decide +kernel
theorem dX12_allRemember_30 : decode cX12_allRemember 30 = .ok (.iand, 1) := by decide +kernel
theorem dX12_allRemember_31 : decode cX12_allRemember 31 = .ok (.iconst 1, 1) := by decide +kernel
theorem dX12_allRemember_32 : decode cX12_allRemember 32 = .ok (.if_icmp .ne 7, 3) := by decide +kernel
theorem dX12_allRemember_35 : decode cX12_allRemember 35 = .ok (.iconst 1, 1) := by decide +kernel
theorem dX12_allRemember_36 : decode cX12_allRemember 36 = .ok (.goto 25, 3) := by decide +kernel
theorem dX12_allRemember_39 : decode cX12_allRemember 39 = .ok (.aload_n 0, 1) := by decide +kernel
theorem dX12_allRemember_40 : decode cX12_allRemember 40 = .ok (.getfield 7, 3) := by decide +kernel
theorem dX12_allRemember_43 : decode cX12_allRemember 43 = .ok (.iload 4, 2) := by decide +kernel
theorem dX12_allRemember_45 : decode cX12_allRemember 45 = .ok (.iaload, 1) := by decide +kernel
theorem dX12_allRemember_46 : decode cX12_allRemember 46 = .ok (.iconst 1, 1) := by decide +kernel
theorem dX12_allRemember_47 : decode cX12_allRemember 47 = .ok (.if_icmp .ne 7, 3) := by decide +kernel
theorem dX12_allRemember_50 : decode cX12_allRemember 50 = .ok (.iconst 0, 1) := by decide +kernel
theorem dX12_allRemember_51 : decode cX12_allRemember 51 = .ok (.goto 10, 3) := by decide +kernel
theorem dX12_allRemember_54 : decode cX12_allRemember 54 = .ok (.aload_n 0, 1) := by decide +kernel
theorem dX12_allRemember_55 : decode cX12_allRemember 55 = .ok (.getfield 7, 3) := by decide +kernel
theorem dX12_allRemember_58 : decode cX12_allRemember 58 = .ok (.iload 4, 2) := by decide +kernel
theorem dX12_allRemember_60 : decode cX12_allRemember 60 = .ok (.iaload, 1) := by decide +kernel
theorem dX12_allRemember_61 : decode cX12_allRemember 61 = .ok (.iastore, 1) := by decide +kernel
theorem dX12_allRemember_62 : decode cX12_allRemember 62 = .ok (.iinc 3 1, 3) := by decide +kernel
theorem dX12_allRemember_65 : decode cX12_allRemember 65 = .ok (.goto (-63), 3) := by decide +kernel
theorem dX12_allRemember_68 : decode cX12_allRemember 68 = .ok (.iconst 0, 1) := by decide +kernel
theorem dX12_allRemember_69 : decode cX12_allRemember 69 = .ok (.istore_n 3, 1) := by decide +kernel
theorem dX12_allRemember_70 : decode cX12_allRemember 70 = .ok (.iload_n 3, 1) := by decide +kernel
theorem dX12_allRemember_71 : decode cX12_allRemember 71 = .ok (.iload_n 1, 1) := by decide +kernel
theorem dX12_allRemember_72 : decode cX12_allRemember 72 = .ok (.if_icmp .ge 16, 3) := by decide +kernel
theorem dX12_allRemember_75 : decode cX12_allRemember 75 = .ok (.aload_n 0, 1) := by decide +kernel
theorem dX12_allRemember_76 : decode cX12_allRemember 76 = .ok (.iconst 0, 1) := by decide +kernel
theorem dX12_allRemember_77 : decode cX12_allRemember 77 = .ok (.invokevirtual 135, 3) := by decide +kernel
theorem dX12_allRemember_80 : decode cX12_allRemember 80 = .ok (.istore 4, 2) := by decide +kernel
theorem dX12_allRemember_82 : decode cX12_allRemember 82 = .ok (.iinc 3 1, 3) := by decide +kernel
theorem dX12_allRemember_85 : decode cX12_allRemember 85 = .ok (.goto (-15), 3) := by decide +kernel
theorem dX12_allRemember_88 : decode cX12_allRemember 88 = .ok (.iconst 1, 1) := by decide +kernel
theorem dX12_allRemember_89 : decode cX12_allRemember 89 = .ok (.istore_n 3, 1) := by decide +kernel
theorem dX12_allRemember_90 : decode cX12_allRemember 90 = .ok (.iconst 0, 1) := by decide +kernel
theorem dX12_allRemember_91 : decode cX12_allRemember 91 = .ok (.istore 4, 2) := by decide +kernel
theorem dX12_allRemember_93 : decode cX12_allRemember 93 = .ok (.iload 4, 2) := by decide +kernel
theorem dX12_allRemember_95 : decode cX12_allRemember 95 = .ok (.aload_n 0, 1) := by decide +kernel
theorem dX12_allRemember_96 : decode cX12_allRemember 96 = .ok (.invokevirtual 52, 3) := by decide +kernel
theorem dX12_allRemember_99 : decode cX12_allRemember 99 = .ok (.if_icmp .ge 29, 3) := by decide +kernel
theorem dX12_allRemember_102 : decode cX12_allRemember 102 = .ok (.iload_n 3, 1) := by decide +kernel
theorem dX12_allRemember_103 : decode cX12_allRemember 103 = .ok (.ifCond .eq 17, 3) := by decide +kernel
theorem dX12_allRemember_106 : decode cX12_allRemember 106 = .ok (.aload_n 0, 1) := by decide +kernel
theorem dX12_allRemember_107 : decode cX12_allRemember 107 = .ok (.iload 4, 2) := by decide +kernel
theorem dX12_allRemember_109 : decode cX12_allRemember 109 = .ok (.iconst 2, 1) := by decide +kernel
theorem dX12_allRemember_110 : decode cX12_allRemember 110 = .ok (.invokevirtual 89, 3) := by decide +kernel
theorem dX12_allRemember_113 : decode cX12_allRemember 113 = .ok (.ifCond .le 7, 3) := by decide +kernel
theorem dX12_allRemember_116 : decode cX12_allRemember 116 = .ok (.iconst 1, 1) := by decide +kernel
theorem dX12_allRemember_117 : decode cX12_allRemember 117 = .ok (.goto 4, 3) := by decide +kernel
theorem dX12_allRemember_120 : decode cX12_allRemember 120 = .ok (.iconst 0, 1) := by decide +kernel
theorem dX12_allRemember_121 : decode cX12_allRemember 121 = .ok (.istore_n 3, 1) := by decide +kernel
theorem dX12_allRemember_122 : decode cX12_allRemember 122 = .ok (.iinc 4 1, 3) := by decide +kernel
theorem dX12_allRemember_125 : decode cX12_allRemember 125 = .ok (.goto (-32), 3) := by decide +kernel
theorem dX12_allRemember_128 : decode cX12_allRemember 128 = .ok (.iload_n 3, 1) := by decide +kernel
theorem dX12_allRemember_129 : decode cX12_allRemember 129 = .ok (.ireturn, 1) := by decide +kernel
theorem dX12_teachers_0 : decode cX12_teachers 0 = .ok (.iload_n 1, 1) := by decide +kernel
theorem dX12_teachers_1 : decode cX12_teachers 1 = .ok (.i2l, 1) := by decide +kernel
theorem dX12_teachers_2 : decode cX12_teachers 2 = .ok (.lconst 0, 1) := by decide +kernel
theorem dX12_teachers_3 : decode cX12_teachers 3 = .ok (.ldc2_w 164, 3) := by decide +kernel
theorem dX12_teachers_6 : decode cX12_teachers 6 = .ok (.invokestatic 56, 3) := by decide +kernel
theorem dX12_teachers_9 : decode cX12_teachers 9 = .ok (.ifCond .ne 10, 3) := by decide +kernel
theorem dX12_teachers_12 : decode cX12_teachers 12 = .ok (.aload_n 0, 1) := by decide +kernel
theorem dX12_teachers_13 : decode cX12_teachers 13 = .ok (.bipush (-2), 2) := by decide +kernel
theorem dX12_teachers_15 : decode cX12_teachers 15 = .ok (.invokevirtual 64, 3) := by decide +kernel
theorem dX12_teachers_18 : decode cX12_teachers 18 = .ok (.ireturn, 1) := by decide +kernel
theorem dX12_teachers_19 : decode cX12_teachers 19 = .ok (.iconst (-1), 1) := by decide +kernel
theorem dX12_teachers_20 : decode cX12_teachers 20 = .ok (.istore_n 2, 1) := by decide +kernel
theorem dX12_teachers_21 : decode cX12_teachers 21 = .ok (.aload_n 0, 1) := by decide +kernel
theorem dX12_teachers_22 : decode cX12_teachers 22 = .ok (.invokevirtual 144, 3) := by decide +kernel
theorem dX12_teachers_25 : decode cX12_teachers 25 = .ok (.iconst 0, 1) := by decide +kernel
theorem dX12_teachers_26 : decode cX12_teachers 26 = .ok (.istore_n 3, 1) := by decide +kernel
theorem dX12_teachers_27 : decode cX12_teachers 27 = .ok (.iload_n 3, 1) := by decide +kernel
theorem dX12_teachers_28 : decode cX12_teachers 28 = .ok (.iconst 1, 1) := by decide +kernel
theorem dX12_teachers_29 : decode cX12_teachers 29 = .ok (.aload_n 0, 1) := by decide +kernel
theorem dX12_teachers_30 : decode cX12_teachers 30 = .ok (.invokevirtual 52, 3) := by decide +kernel
theorem dX12_teachers_33 : decode cX12_teachers 33 = .ok (.ishl, 1) := by decide +kernel
theorem dX12_teachers_34 : decode cX12_teachers 34 = .ok (.if_icmp .ge 56, 3) := by decide +kernel
theorem dX12_teachers_37 : decode cX12_teachers 37 = .ok (.iload_n 2, 1) := by decide +kernel
theorem dX12_teachers_38 : decode cX12_teachers 38 = .ok (.iconst (-1), 1) := by decide +kernel
theorem dX12_teachers_39 : decode cX12_teachers 39 = .ok (.if_icmp .eq 14, 3) := by decide +kernel
theorem dX12_teachers_42 : decode cX12_teachers 42 = .ok (.iload_n 3, 1) := by decide +kernel
theorem dX12_teachers_43 : decode cX12_teachers 43 = .ok (.invokestatic 175, 3) := by decide +kernel
theorem dX12_teachers_46 : decode cX12_teachers 46 = .ok (.iload_n 2, 1) := by decide +kernel
theorem dX12_teachers_47 : decode cX12_teachers 47 = .ok (.invokestatic 175, 3) := by decide +kernel
theorem dX12_teachers_50 : decode cX12_teachers 50 = .ok (.if_icmp .ge 7, 3) := by decide +kernel
theorem dX12_teachers_53 : decode cX12_teachers 53 = .ok (.iconst 1, 1) := by decide +kernel
theorem dX12_teachers_54 : decode cX12_teachers 54 = .ok (.goto 4, 3) := by decide +kernel
theorem dX12_teachers_57 : decode cX12_teachers 57 = .ok (.iconst 0, 1) := by decide +kernel
theorem dX12_teachers_58 : decode cX12_teachers 58 = .ok (.istore 4, 2) := by decide +kernel
theorem dX12_teachers_60 : decode cX12_teachers 60 = .ok (.iload 4, 2) := by decide +kernel
theorem dX12_teachers_62 : decode cX12_teachers 62 = .ok (.ifCond .eq 16, 3) := by decide +kernel
theorem dX12_teachers_65 : decode cX12_teachers 65 = .ok (.aload_n 0, 1) := by decide +kernel
theorem dX12_teachers_66 : decode cX12_teachers 66 = .ok (.iload_n 1, 1) := by decide +kernel
theorem dX12_teachers_67 : decode cX12_teachers 67 = .ok (.iload_n 3, 1) := by decide +kernel
theorem dX12_teachers_68 : decode cX12_teachers 68 = .ok (.invokevirtual 186, 3) := by decide +kernel
theorem dX12_teachers_71 : decode cX12_teachers 71 = .ok (.ifCond .eq 7, 3) := by decide +kernel
theorem dX12_teachers_74 : decode cX12_teachers 74 = .ok (.iload_n 3, 1) := by decide +kernel
theorem dX12_teachers_75 : decode cX12_teachers 75 = .ok (.goto 4, 3) := by decide +kernel
theorem dX12_teachers_78 : decode cX12_teachers 78 = .ok (.iload_n 2, 1) := by decide +kernel
theorem dX12_teachers_79 : decode cX12_teachers 79 = .ok (.istore_n 2, 1) := by decide +kernel
theorem dX12_teachers_80 : decode cX12_teachers 80 = .ok (.aload_n 0, 1) := by decide +kernel
theorem dX12_teachers_81 : decode cX12_teachers 81 = .ok (.invokevirtual 153, 3) := by decide +kernel
theorem dX12_teachers_84 : decode cX12_teachers 84 = .ok (.iinc 3 1, 3) := by decide +kernel
theorem dX12_teachers_87 : decode cX12_teachers 87 = .ok (.goto (-60), 3) := by decide +kernel
theorem dX12_teachers_90 : decode cX12_teachers 90 = .ok (.iload_n 2, 1) := by decide +kernel
theorem dX12_teachers_91 : decode cX12_teachers 91 = .ok (.ireturn, 1) := by decide +kernel
theorem dX12_layDebt_0 : decode cX12_layDebt 0 = .ok (.bipush 34, 2) := by decide +kernel
theorem dX12_layDebt_2 : decode cX12_layDebt 2 = .ok (.iconst 3, 1) := by decide +kernel
theorem dX12_layDebt_3 : decode cX12_layDebt 3 = .ok (.aload_n 0, 1) := by decide +kernel
theorem dX12_layDebt_4 : decode cX12_layDebt 4 = .ok (.bipush 33, 2) := by decide +kernel
theorem dX12_layDebt_6 : decode cX12_layDebt 6 = .ok (.iaload, 1) := by decide +kernel
theorem dX12_layDebt_7 : decode cX12_layDebt 7 = .ok (.imul, 1) := by decide +kernel
theorem dX12_layDebt_8 : decode cX12_layDebt 8 = .ok (.iadd, 1) := by decide +kernel
theorem dX12_layDebt_9 : decode cX12_layDebt 9 = .ok (.istore 4, 2) := by decide +kernel
theorem dX12_layDebt_11 : decode cX12_layDebt 11 = .ok (.aload_n 0, 1) := by decide +kernel
theorem dX12_layDebt_12 : decode cX12_layDebt 12 = .ok (.iload 4, 2) := by decide +kernel
theorem dX12_layDebt_14 : decode cX12_layDebt 14 = .ok (.iload_n 1, 1) := by decide +kernel
theorem dX12_layDebt_15 : decode cX12_layDebt 15 = .ok (.iastore, 1) := by decide +kernel
theorem dX12_layDebt_16 : decode cX12_layDebt 16 = .ok (.aload_n 0, 1) := by decide +kernel
theorem dX12_layDebt_17 : decode cX12_layDebt 17 = .ok (.iload 4, 2) := by decide +kernel
theorem dX12_layDebt_19 : decode cX12_layDebt 19 = .ok (.iconst 1, 1) := by decide +kernel
theorem dX12_layDebt_20 : decode cX12_layDebt 20 = .ok (.iadd, 1) := by decide +kernel
theorem dX12_layDebt_21 : decode cX12_layDebt 21 = .ok (.iload_n 2, 1) := by decide +kernel
theorem dX12_layDebt_22 : decode cX12_layDebt 22 = .ok (.iastore, 1) := by decide +kernel
theorem dX12_layDebt_23 : decode cX12_layDebt 23 = .ok (.aload_n 0, 1) := by decide +kernel
theorem dX12_layDebt_24 : decode cX12_layDebt 24 = .ok (.iload 4, 2) := by decide +kernel
theorem dX12_layDebt_26 : decode cX12_layDebt 26 = .ok (.iconst 2, 1) := by decide +kernel
theorem dX12_layDebt_27 : decode cX12_layDebt 27 = .ok (.iadd, 1) := by decide +kernel
theorem dX12_layDebt_28 : decode cX12_layDebt 28 = .ok (.iload_n 3, 1) := by decide +kernel
theorem dX12_layDebt_29 : decode cX12_layDebt 29 = .ok (.iastore, 1) := by decide +kernel
theorem dX12_layDebt_30 : decode cX12_layDebt 30 = .ok (.aload_n 0, 1) := by decide +kernel
theorem dX12_layDebt_31 : decode cX12_layDebt 31 = .ok (.bipush 33, 2) := by decide +kernel
theorem dX12_layDebt_33 : decode cX12_layDebt 33 = .ok (.dup2, 1) := by decide +kernel
theorem dX12_layDebt_34 : decode cX12_layDebt 34 = .ok (.iaload, 1) := by decide +kernel
theorem dX12_layDebt_35 : decode cX12_layDebt 35 = .ok (.iconst 1, 1) := by decide +kernel
theorem dX12_layDebt_36 : decode cX12_layDebt 36 = .ok (.iadd, 1) := by decide +kernel
theorem dX12_layDebt_37 : decode cX12_layDebt 37 = .ok (.iastore, 1) := by decide +kernel
theorem dX12_layDebt_38 : decode cX12_layDebt 38 = .ok (.return_, 1) := by decide +kernel
theorem dX12_debt_0 : decode cX12_debt 0 = .ok (.aload_n 0, 1) := by decide +kernel
theorem dX12_debt_1 : decode cX12_debt 1 = .ok (.iload_n 1, 1) := by decide +kernel
theorem dX12_debt_2 : decode cX12_debt 2 = .ok (.invokevirtual 85, 3) := by decide +kernel
theorem dX12_debt_5 : decode cX12_debt 5 = .ok (.ifCond .eq 28, 3) := by decide +kernel
theorem dX12_debt_8 : decode cX12_debt 8 = .ok (.aload_n 0, 1) := by decide +kernel
theorem dX12_debt_9 : decode cX12_debt 9 = .ok (.iload_n 2, 1) := by decide +kernel
theorem dX12_debt_10 : decode cX12_debt 10 = .ok (.invokevirtual 85, 3) := by decide +kernel
theorem dX12_debt_13 : decode cX12_debt 13 = .ok (.ifCond .eq 20, 3) := by decide +kernel
theorem dX12_debt_16 : decode cX12_debt 16 = .ok (.iload_n 1, 1) := by decide +kernel
theorem dX12_debt_17 : decode cX12_debt 17 = .ok (.iload_n 2, 1) := by decide +kernel
theorem dX12_debt_18 : decode cX12_debt 18 = .ok (.if_icmp .eq 15, 3) := by decide +kernel
theorem dX12_debt_21 : decode cX12_debt 21 = .ok (.iload_n 3, 1) := by decide +kernel
theorem dX12_debt_22 : decode cX12_debt 22 = .ok (.i2l, 1) := by decide +kernel
theorem dX12_debt_23 : decode cX12_debt 23 = .ok (.lconst 1, 1) := by decide +kernel
theorem dX12_debt_24 : decode cX12_debt 24 = .ok (.ldc2_w 189, 3) := by decide +kernel
theorem dX12_debt_27 : decode cX12_debt 27 = .ok (.invokestatic 56, 3) := by decide +kernel
theorem dX12_debt_30 : decode cX12_debt 30 = .ok (.ifCond .ne 10, 3) := by decide +kernel
theorem dX12_debt_33 : decode cX12_debt 33 = .ok (.aload_n 0, 1) := by decide +kernel
theorem dX12_debt_34 : decode cX12_debt 34 = .ok (.bipush (-2), 2) := by decide +kernel
theorem dX12_debt_36 : decode cX12_debt 36 = .ok (.invokevirtual 64, 3) := by decide +kernel
theorem dX12_debt_39 : decode cX12_debt 39 = .ok (.ireturn, 1) := by decide +kernel
theorem dX12_debt_40 : decode cX12_debt 40 = .ok (.aload_n 0, 1) := by decide +kernel
theorem dX12_debt_41 : decode cX12_debt 41 = .ok (.getfield 7, 3) := by decide +kernel
theorem dX12_debt_44 : decode cX12_debt 44 = .ok (.bipush 33, 2) := by decide +kernel
theorem dX12_debt_46 : decode cX12_debt 46 = .ok (.iaload, 1) := by decide +kernel
theorem dX12_debt_47 : decode cX12_debt 47 = .ok (.bipush 8, 2) := by decide +kernel
theorem dX12_debt_49 : decode cX12_debt 49 = .ok (.if_icmp .ne 8, 3) := by decide +kernel
theorem dX12_debt_52 : decode cX12_debt 52 = .ok (.aload_n 0, 1) := by decide +kernel
theorem dX12_debt_53 : decode cX12_debt 53 = .ok (.invokevirtual 78, 3) := by decide +kernel
theorem dX12_debt_56 : decode cX12_debt 56 = .ok (.ireturn, 1) := by decide +kernel
theorem dX12_debt_57 : decode cX12_debt 57 = .ok (.aload_n 0, 1) := by decide +kernel
theorem dX12_debt_58 : decode cX12_debt 58 = .ok (.getfield 7, 3) := by decide +kernel
theorem dX12_debt_61 : decode cX12_debt 61 = .ok (.iload_n 1, 1) := by decide +kernel
theorem dX12_debt_62 : decode cX12_debt 62 = .ok (.iload_n 2, 1) := by decide +kernel
theorem dX12_debt_63 : decode cX12_debt 63 = .ok (.iload_n 3, 1) := by decide +kernel
theorem dX12_debt_64 : decode cX12_debt 64 = .ok (.invokestatic 191, 3) := by decide +kernel
theorem dX12_debt_67 : decode cX12_debt 67 = .ok (.aload_n 0, 1) := by decide +kernel
theorem dX12_debt_68 : decode cX12_debt 68 = .ok (.getfield 7, 3) := by decide +kernel
theorem dX12_debt_71 : decode cX12_debt 71 = .ok (.bipush 33, 2) := by decide +kernel
theorem dX12_debt_73 : decode cX12_debt 73 = .ok (.iaload, 1) := by decide +kernel
theorem dX12_debt_74 : decode cX12_debt 74 = .ok (.iconst 1, 1) := by decide +kernel
theorem dX12_debt_75 : decode cX12_debt 75 = .ok (.isub, 1) := by decide +kernel
theorem dX12_debt_76 : decode cX12_debt 76 = .ok (.ireturn, 1) := by decide +kernel
theorem dX12_rate_0 : decode cX12_rate 0 = .ok (.iload_n 1, 1) := by decide +kernel
theorem dX12_rate_1 : decode cX12_rate 1 = .ok (.i2l, 1) := by decide +kernel
theorem dX12_rate_2 : decode cX12_rate 2 = .ok (.lconst 0, 1) := by decide +kernel
theorem dX12_rate_3 : decode cX12_rate 3 = .ok (.ldc2_w 194, 3) := by decide +kernel
theorem dX12_rate_6 : decode cX12_rate 6 = .ok (.invokestatic 56, 3) := by decide +kernel
theorem dX12_rate_9 : decode cX12_rate 9 = .ok (.ifCond .ne 10, 3) := by decide +kernel
theorem dX12_rate_12 : decode cX12_rate 12 = .ok (.aload_n 0, 1) := by decide +kernel
theorem dX12_rate_13 : decode cX12_rate 13 = .ok (.bipush (-2), 2) := by decide +kernel
theorem dX12_rate_15 : decode cX12_rate 15 = .ok (.invokevirtual 64, 3) := by decide +kernel
theorem dX12_rate_18 : decode cX12_rate 18 = .ok (.ireturn, 1) := by decide +kernel
theorem dX12_rate_19 : decode cX12_rate 19 = .ok (.aload_n 0, 1) := by decide +kernel
theorem dX12_rate_20 : decode cX12_rate 20 = .ok (.getfield 7, 3) := by decide +kernel
theorem dX12_rate_23 : decode cX12_rate 23 = .ok (.bipush 58, 2) := by decide +kernel
theorem dX12_rate_25 : decode cX12_rate 25 = .ok (.iaload, 1) := by decide +kernel
theorem dX12_rate_26 : decode cX12_rate 26 = .ok (.istore_n 2, 1) := by decide +kernel
theorem dX12_rate_27 : decode cX12_rate 27 = .ok (.aload_n 0, 1) := by decide +kernel
theorem dX12_rate_28 : decode cX12_rate 28 = .ok (.getfield 7, 3) := by decide +kernel
theorem dX12_rate_31 : decode cX12_rate 31 = .ok (.bipush 58, 2) := by decide +kernel
theorem dX12_rate_33 : decode cX12_rate 33 = .ok (.iload_n 1, 1) := by decide +kernel
theorem dX12_rate_34 : decode cX12_rate 34 = .ok (.iastore, 1) := by decide +kernel
theorem dX12_rate_35 : decode cX12_rate 35 = .ok (.iload_n 2, 1) := by decide +kernel
theorem dX12_rate_36 : decode cX12_rate 36 = .ok (.ireturn, 1) := by decide +kernel
theorem dX12_netOf_0 : decode cX12_netOf 0 = .ok (.aload_n 0, 1) := by decide +kernel
theorem dX12_netOf_1 : decode cX12_netOf 1 = .ok (.getfield 7, 3) := by decide +kernel
theorem dX12_netOf_4 : decode cX12_netOf 4 = .ok (.iconst 0, 1) := by decide +kernel
theorem dX12_netOf_5 : decode cX12_netOf 5 = .ok (.iaload, 1) := by decide +kernel
theorem dX12_netOf_6 : decode cX12_netOf 6 = .ok (.iconst 1, 1) := by decide +kernel
theorem dX12_netOf_7 : decode cX12_netOf 7 = .ok (.isub, 1) := by decide +kernel
theorem dX12_netOf_8 : decode cX12_netOf 8 = .ok (.aload_n 0, 1) := by decide +kernel
theorem dX12_netOf_9 : decode cX12_netOf 9 = .ok (.getfield 7, 3) := by decide +kernel
theorem dX12_netOf_12 : decode cX12_netOf 12 = .ok (.iconst 1, 1) := by decide +kernel
theorem dX12_netOf_13 : decode cX12_netOf 13 = .ok (.iaload, 1) := by decide +kernel
theorem dX12_netOf_14 : decode cX12_netOf 14 = .ok (.aload_n 0, 1) := by decide +kernel
theorem dX12_netOf_15 : decode cX12_netOf 15 = .ok (.getfield 7, 3) := by decide +kernel
theorem dX12_netOf_18 : decode cX12_netOf 18 = .ok (.iconst 0, 1) := by decide +kernel
theorem dX12_netOf_19 : decode cX12_netOf 19 = .ok (.iaload, 1) := by decide +kernel
theorem dX12_netOf_20 : decode cX12_netOf 20 = .ok (.irem, 1) := by decide +kernel
theorem dX12_netOf_21 : decode cX12_netOf 21 = .ok (.isub, 1) := by decide +kernel
theorem dX12_netOf_22 : decode cX12_netOf 22 = .ok (.istore_n 2, 1) := by decide +kernel
theorem dX12_netOf_23 : decode cX12_netOf 23 = .ok (.iconst 0, 1) := by decide +kernel
theorem dX12_netOf_24 : decode cX12_netOf 24 = .ok (.istore_n 3, 1) := by decide +kernel
theorem dX12_netOf_25 : decode cX12_netOf 25 = .ok (.iconst 0, 1) := by decide +kernel
theorem dX12_netOf_26 : decode cX12_netOf 26 = .ok (.istore 4, 2) := by decide +kernel
theorem dX12_netOf_28 : decode cX12_netOf 28 = .ok (.iload 4, 2) := by decide +kernel
theorem dX12_netOf_30 : decode cX12_netOf 30 = .ok (.aload_n 0, 1) := by decide +kernel
theorem dX12_netOf_31 : decode cX12_netOf 31 = .ok (.getfield 7, 3) := by decide +kernel
theorem dX12_netOf_34 : decode cX12_netOf 34 = .ok (.bipush 33, 2) := by decide +kernel
theorem dX12_netOf_36 : decode cX12_netOf 36 = .ok (.iaload, 1) := by decide +kernel
theorem dX12_netOf_37 : decode cX12_netOf 37 = .ok (.if_icmp .ge 92, 3) := by decide +kernel
theorem dX12_netOf_40 : decode cX12_netOf 40 = .ok (.bipush 34, 2) := by decide +kernel
theorem dX12_netOf_42 : decode cX12_netOf 42 = .ok (.iconst 3, 1) := by decide +kernel
theorem dX12_netOf_43 : decode cX12_netOf 43 = .ok (.iload 4, 2) := by decide +kernel
theorem dX12_netOf_45 : decode cX12_netOf 45 = .ok (.imul, 1) := by decide +kernel
theorem dX12_netOf_46 : decode cX12_netOf 46 = .ok (.iadd, 1) := by decide +kernel
theorem dX12_netOf_47 : decode cX12_netOf 47 = .ok (.istore 5, 2) := by decide +kernel
theorem dX12_netOf_49 : decode cX12_netOf 49 = .ok (.aload_n 0, 1) := by decide +kernel
theorem dX12_netOf_50 : decode cX12_netOf 50 = .ok (.getfield 7, 3) := by decide +kernel
theorem dX12_netOf_53 : decode cX12_netOf 53 = .ok (.iload 5, 2) := by decide +kernel
theorem dX12_netOf_55 : decode cX12_netOf 55 = .ok (.iconst 2, 1) := by decide +kernel
theorem dX12_netOf_56 : decode cX12_netOf 56 = .ok (.iadd, 1) := by decide +kernel
theorem dX12_netOf_57 : decode cX12_netOf 57 = .ok (.iaload, 1) := by decide +kernel
theorem dX12_netOf_58 : decode cX12_netOf 58 = .ok (.aload_n 0, 1) := by decide +kernel
theorem dX12_netOf_59 : decode cX12_netOf 59 = .ok (.getfield 7, 3) := by decide +kernel
theorem dX12_netOf_62 : decode cX12_netOf 62 = .ok (.iload 5, 2) := by decide +kernel
theorem dX12_netOf_64 : decode cX12_netOf 64 = .ok (.iconst 2, 1) := by decide +kernel
theorem dX12_netOf_65 : decode cX12_netOf 65 = .ok (.iadd, 1) := by decide +kernel
theorem dX12_netOf_66 : decode cX12_netOf 66 = .ok (.iaload, 1) := by decide +kernel
theorem dX12_netOf_67 : decode cX12_netOf 67 = .ok (.aload_n 0, 1) := by decide +kernel
theorem dX12_netOf_68 : decode cX12_netOf 68 = .ok (.getfield 7, 3) := by decide +kernel
theorem dX12_netOf_71 : decode cX12_netOf 71 = .ok (.bipush 58, 2) := by decide +kernel
theorem dX12_netOf_73 : decode cX12_netOf 73 = .ok (.iaload, 1) := by decide +kernel
theorem dX12_netOf_74 : decode cX12_netOf 74 = .ok (.imul, 1) := by decide +kernel
theorem dX12_netOf_75 : decode cX12_netOf 75 = .ok (.iload_n 2, 1) := by decide +kernel
theorem dX12_netOf_76 : decode cX12_netOf 76 = .ok (.imul, 1) := by decide +kernel
theorem dX12_netOf_77 : decode cX12_netOf 77 = .ok (.bipush 100, 2) := by decide +kernel
theorem dX12_netOf_79 : decode cX12_netOf 79 = .ok (.idiv, 1) := by decide +kernel
theorem dX12_netOf_80 : decode cX12_netOf 80 = .ok (.iadd, 1) := by decide +kernel
theorem dX12_netOf_81 : decode cX12_netOf 81 = .ok (.istore 6, 2) := by decide +kernel
theorem dX12_netOf_83 : decode cX12_netOf 83 = .ok (.iload_n 3, 1) := by decide +kernel
theorem dX12_netOf_84 : decode cX12_netOf 84 = .ok (.aload_n 0, 1) := by decide +kernel
theorem dX12_netOf_85 : decode cX12_netOf 85 = .ok (.getfield 7, 3) := by decide +kernel
theorem dX12_netOf_88 : decode cX12_netOf 88 = .ok (.iload 5, 2) := by decide +kernel
theorem dX12_netOf_90 : decode cX12_netOf 90 = .ok (.iconst 1, 1) := by decide +kernel
theorem dX12_netOf_91 : decode cX12_netOf 91 = .ok (.iadd, 1) := by decide +kernel
theorem dX12_netOf_92 : decode cX12_netOf 92 = .ok (.iaload, 1) := by decide +kernel
theorem dX12_netOf_93 : decode cX12_netOf 93 = .ok (.iload_n 1, 1) := by decide +kernel
theorem dX12_netOf_94 : decode cX12_netOf 94 = .ok (.if_icmp .ne 8, 3) := by decide +kernel
theorem dX12_netOf_97 : decode cX12_netOf 97 = .ok (.iload 6, 2) := by decide +kernel
theorem dX12_netOf_99 : decode cX12_netOf 99 = .ok (.goto 4, 3) := by decide +kernel
theorem dX12_netOf_102 : decode cX12_netOf 102 = .ok (.iconst 0, 1) := by decide +kernel
theorem dX12_netOf_103 : decode cX12_netOf 103 = .ok (.aload_n 0, 1) := by decide +kernel
theorem dX12_netOf_104 : decode cX12_netOf 104 = .ok (.getfield 7, 3) := by decide +kernel
theorem dX12_netOf_107 : decode cX12_netOf 107 = .ok (.iload 5, 2) := by decide +kernel
theorem dX12_netOf_109 : decode cX12_netOf 109 = .ok (.iaload, 1) := by decide +kernel
theorem dX12_netOf_110 : decode cX12_netOf 110 = .ok (.iload_n 1, 1) := by decide +kernel
theorem dX12_netOf_111 : decode cX12_netOf 111 = .ok (.if_icmp .ne 8, 3) := by decide +kernel
theorem dX12_netOf_114 : decode cX12_netOf 114 = .ok (.iload 6, 2) := by decide +kernel
theorem dX12_netOf_116 : decode cX12_netOf 116 = .ok (.goto 4, 3) := by decide +kernel
theorem dX12_netOf_119 : decode cX12_netOf 119 = .ok (.iconst 0, 1) := by decide +kernel
theorem dX12_netOf_120 : decode cX12_netOf 120 = .ok (.isub, 1) := by decide +kernel
theorem dX12_netOf_121 : decode cX12_netOf 121 = .ok (.iadd, 1) := by decide +kernel
theorem dX12_netOf_122 : decode cX12_netOf 122 = .ok (.istore_n 3, 1) := by decide +kernel
theorem dX12_netOf_123 : decode cX12_netOf 123 = .ok (.iinc 4 1, 3) := by decide +kernel
theorem dX12_netOf_126 : decode cX12_netOf 126 = .ok (.goto (-98), 3) := by decide +kernel
theorem dX12_netOf_129 : decode cX12_netOf 129 = .ok (.iload_n 3, 1) := by decide +kernel
theorem dX12_netOf_130 : decode cX12_netOf 130 = .ok (.ireturn, 1) := by decide +kernel
theorem dX12_net_0 : decode cX12_net 0 = .ok (.aload_n 0, 1) := by decide +kernel
theorem dX12_net_1 : decode cX12_net 1 = .ok (.iload_n 1, 1) := by decide +kernel
theorem dX12_net_2 : decode cX12_net 2 = .ok (.invokevirtual 85, 3) := by decide +kernel
theorem dX12_net_5 : decode cX12_net 5 = .ok (.ifCond .eq 11, 3) := by decide +kernel
theorem dX12_net_8 : decode cX12_net 8 = .ok (.aload_n 0, 1) := by decide +kernel
theorem dX12_net_9 : decode cX12_net 9 = .ok (.iload_n 1, 1) := by decide +kernel
theorem dX12_net_10 : decode cX12_net 10 = .ok (.invokevirtual 196, 3) := by decide +kernel
theorem dX12_net_13 : decode cX12_net 13 = .ok (.goto 9, 3) := by decide +kernel
theorem dX12_net_16 : decode cX12_net 16 = .ok (.aload_n 0, 1) := by decide +kernel
theorem dX12_net_17 : decode cX12_net 17 = .ok (.ldc 199, 2) := by decide +kernel
theorem dX12_net_19 : decode cX12_net 19 = .ok (.invokevirtual 64, 3) := by decide +kernel
theorem dX12_net_22 : decode cX12_net 22 = .ok (.ireturn, 1) := by decide +kernel
theorem dX12_sumOf_0 : decode cX12_sumOf 0 = .ok (.iconst 0, 1) := by decide +kernel
theorem dX12_sumOf_1 : decode cX12_sumOf 1 = .ok (.istore_n 2, 1) := by decide +kernel
theorem dX12_sumOf_2 : decode cX12_sumOf 2 = .ok (.iconst 0, 1) := by decide +kernel
theorem dX12_sumOf_3 : decode cX12_sumOf 3 = .ok (.istore_n 3, 1) := by decide +kernel
theorem dX12_sumOf_4 : decode cX12_sumOf 4 = .ok (.iload_n 3, 1) := by decide +kernel
theorem dX12_sumOf_5 : decode cX12_sumOf 5 = .ok (.aload_n 0, 1) := by decide +kernel
theorem dX12_sumOf_6 : decode cX12_sumOf 6 = .ok (.invokevirtual 52, 3) := by decide +kernel
theorem dX12_sumOf_9 : decode cX12_sumOf 9 = .ok (.if_icmp .ge 31, 3) := by decide +kernel
theorem dX12_sumOf_12 : decode cX12_sumOf 12 = .ok (.iload_n 2, 1) := by decide +kernel
theorem dX12_sumOf_13 : decode cX12_sumOf 13 = .ok (.iload_n 1, 1) := by decide +kernel
theorem dX12_sumOf_14 : decode cX12_sumOf 14 = .ok (.iload_n 3, 1) := by decide +kernel
theorem dX12_sumOf_15 : decode cX12_sumOf 15 = .ok (.ishr, 1) := by decide +kernel
theorem dX12_sumOf_16 : decode cX12_sumOf 16 = .ok (.iconst 1, 1) := by decide +kernel
theorem dX12_sumOf_17 : decode cX12_sumOf 17 = .ok (.iand, 1) := by decide +kernel
theorem dX12_sumOf_18 : decode cX12_sumOf 18 = .ok (.iconst 1, 1) := by decide +kernel
theorem dX12_sumOf_19 : decode cX12_sumOf 19 = .ok (.if_icmp .ne 12, 3) := by decide +kernel
theorem dX12_sumOf_22 : decode cX12_sumOf 22 = .ok (.aload_n 0, 1) := by decide +kernel
theorem dX12_sumOf_23 : decode cX12_sumOf 23 = .ok (.getfield 33, 3) := by decide +kernel
theorem dX12_sumOf_26 : decode cX12_sumOf 26 = .ok (.iload_n 3, 1) := by decide +kernel
theorem dX12_sumOf_27 : decode cX12_sumOf 27 = .ok (.iaload, 1) := by decide +kernel
theorem dX12_sumOf_28 : decode cX12_sumOf 28 = .ok (.goto 4, 3) := by decide +kernel
theorem dX12_sumOf_31 : decode cX12_sumOf 31 = .ok (.iconst 0, 1) := by decide +kernel
theorem dX12_sumOf_32 : decode cX12_sumOf 32 = .ok (.iadd, 1) := by decide +kernel
theorem dX12_sumOf_33 : decode cX12_sumOf 33 = .ok (.istore_n 2, 1) := by decide +kernel
theorem dX12_sumOf_34 : decode cX12_sumOf 34 = .ok (.iinc 3 1, 3) := by decide +kernel
theorem dX12_sumOf_37 : decode cX12_sumOf 37 = .ok (.goto (-33), 3) := by decide +kernel
theorem dX12_sumOf_40 : decode cX12_sumOf 40 = .ok (.iload_n 2, 1) := by decide +kernel
theorem dX12_sumOf_41 : decode cX12_sumOf 41 = .ok (.ireturn, 1) := by decide +kernel
theorem dX12_cleared_0 : decode cX12_cleared 0 = .ok (.iconst 0, 1) := by decide +kernel
theorem dX12_cleared_1 : decode cX12_cleared 1 = .ok (.istore_n 1, 1) := by decide +kernel
theorem dX12_cleared_2 : decode cX12_cleared 2 = .ok (.iconst 0, 1) := by decide +kernel
theorem dX12_cleared_3 : decode cX12_cleared 3 = .ok (.istore_n 2, 1) := by decide +kernel
theorem dX12_cleared_4 : decode cX12_cleared 4 = .ok (.iload_n 2, 1) := by decide +kernel
theorem dX12_cleared_5 : decode cX12_cleared 5 = .ok (.aload_n 0, 1) := by decide +kernel
theorem dX12_cleared_6 : decode cX12_cleared 6 = .ok (.invokevirtual 52, 3) := by decide +kernel
theorem dX12_cleared_9 : decode cX12_cleared 9 = .ok (.if_icmp .ge 39, 3) := by decide +kernel
theorem dX12_cleared_12 : decode cX12_cleared 12 = .ok (.aload_n 0, 1) := by decide +kernel
theorem dX12_cleared_13 : decode cX12_cleared 13 = .ok (.getfield 33, 3) := by decide +kernel
theorem dX12_cleared_16 : decode cX12_cleared 16 = .ok (.iload_n 2, 1) := by decide +kernel
theorem dX12_cleared_17 : decode cX12_cleared 17 = .ok (.aload_n 0, 1) := by decide +kernel
theorem dX12_cleared_18 : decode cX12_cleared 18 = .ok (.iload_n 2, 1) := by decide +kernel
theorem dX12_cleared_19 : decode cX12_cleared 19 = .ok (.invokevirtual 196, 3) := by decide +kernel
theorem dX12_cleared_22 : decode cX12_cleared 22 = .ok (.iastore, 1) := by decide +kernel
theorem dX12_cleared_23 : decode cX12_cleared 23 = .ok (.iload_n 1, 1) := by decide +kernel
theorem dX12_cleared_24 : decode cX12_cleared 24 = .ok (.aload_n 0, 1) := by decide +kernel
theorem dX12_cleared_25 : decode cX12_cleared 25 = .ok (.getfield 33, 3) := by decide +kernel
theorem dX12_cleared_28 : decode cX12_cleared 28 = .ok (.iload_n 2, 1) := by decide +kernel
theorem dX12_cleared_29 : decode cX12_cleared 29 = .ok (.iaload, 1) := by decide +kernel
theorem dX12_cleared_30 : decode cX12_cleared 30 = .ok (.ifCond .eq 9, 3) := by decide +kernel
theorem dX12_cleared_33 : decode cX12_cleared 33 = .ok (.iconst 1, 1) := by decide +kernel
theorem dX12_cleared_34 : decode cX12_cleared 34 = .ok (.iload_n 2, 1) := by decide +kernel
theorem dX12_cleared_35 : decode cX12_cleared 35 = .ok (.ishl, 1) := by decide +kernel
theorem dX12_cleared_36 : decode cX12_cleared 36 = .ok (.goto 4, 3) := by decide +kernel
theorem dX12_cleared_39 : decode cX12_cleared 39 = .ok (.iconst 0, 1) := by decide +kernel
theorem dX12_cleared_40 : decode cX12_cleared 40 = .ok (.ior, 1) := by decide +kernel
theorem dX12_cleared_41 : decode cX12_cleared 41 = .ok (.istore_n 1, 1) := by decide +kernel
theorem dX12_cleared_42 : decode cX12_cleared 42 = .ok (.iinc 2 1, 3) := by decide +kernel
theorem dX12_cleared_45 : decode cX12_cleared 45 = .ok (.goto (-41), 3) := by decide +kernel
theorem dX12_cleared_48 : decode cX12_cleared 48 = .ok (.aload_n 0, 1) := by decide +kernel
theorem dX12_cleared_49 : decode cX12_cleared 49 = .ok (.getfield 30, 3) := by decide +kernel
theorem dX12_cleared_52 : decode cX12_cleared 52 = .ok (.iconst 0, 1) := by decide +kernel
theorem dX12_cleared_53 : decode cX12_cleared 53 = .ok (.iconst 0, 1) := by decide +kernel
theorem dX12_cleared_54 : decode cX12_cleared 54 = .ok (.iastore, 1) := by decide +kernel
theorem dX12_cleared_55 : decode cX12_cleared 55 = .ok (.iconst 1, 1) := by decide +kernel
theorem dX12_cleared_56 : decode cX12_cleared 56 = .ok (.istore_n 2, 1) := by decide +kernel
theorem dX12_cleared_57 : decode cX12_cleared 57 = .ok (.iload_n 2, 1) := by decide +kernel
theorem dX12_cleared_58 : decode cX12_cleared 58 = .ok (.iconst 1, 1) := by decide +kernel
theorem dX12_cleared_59 : decode cX12_cleared 59 = .ok (.aload_n 0, 1) := by decide +kernel
theorem dX12_cleared_60 : decode cX12_cleared 60 = .ok (.invokevirtual 52, 3) := by decide +kernel
theorem dX12_cleared_63 : decode cX12_cleared 63 = .ok (.ishl, 1) := by decide +kernel
theorem dX12_cleared_64 : decode cX12_cleared 64 = .ok (.if_icmp .ge 87, 3) := by decide +kernel
theorem dX12_cleared_67 : decode cX12_cleared 67 = .ok (.aload_n 0, 1) := by decide +kernel
theorem dX12_cleared_68 : decode cX12_cleared 68 = .ok (.getfield 30, 3) := by decide +kernel
theorem dX12_cleared_71 : decode cX12_cleared 71 = .ok (.iload_n 2, 1) := by decide +kernel
theorem dX12_cleared_72 : decode cX12_cleared 72 = .ok (.ldc 200, 2) := by decide +kernel
theorem dX12_cleared_74 : decode cX12_cleared 74 = .ok (.iastore, 1) := by decide +kernel
theorem dX12_cleared_75 : decode cX12_cleared 75 = .ok (.iload_n 2, 1) := by decide +kernel
theorem dX12_cleared_76 : decode cX12_cleared 76 = .ok (.istore_n 3, 1) := by decide +kernel
theorem dX12_cleared_77 : decode cX12_cleared 77 = .ok (.iload_n 3, 1) := by decide +kernel
theorem dX12_cleared_78 : decode cX12_cleared 78 = .ok (.ifCond .le 67, 3) := by decide +kernel
theorem dX12_cleared_81 : decode cX12_cleared 81 = .ok (.aload_n 0, 1) := by decide +kernel
theorem dX12_cleared_82 : decode cX12_cleared 82 = .ok (.iload_n 3, 1) := by decide +kernel
theorem dX12_cleared_83 : decode cX12_cleared 83 = .ok (.invokevirtual 201, 3) := by decide +kernel
theorem dX12_cleared_86 : decode cX12_cleared 86 = .ok (.ifCond .ne 18, 3) := by decide +kernel
theorem dX12_cleared_89 : decode cX12_cleared 89 = .ok (.aload_n 0, 1) := by decide +kernel
theorem dX12_cleared_90 : decode cX12_cleared 90 = .ok (.getfield 30, 3) := by decide +kernel
theorem dX12_cleared_93 : decode cX12_cleared 93 = .ok (.iload_n 2, 1) := by decide +kernel
theorem dX12_cleared_94 : decode cX12_cleared 94 = .ok (.iload_n 3, 1) := by decide +kernel
theorem dX12_cleared_95 : decode cX12_cleared 95 = .ok (.iconst (-1), 1) := by decide +kernel
theorem dX12_cleared_96 : decode cX12_cleared 96 = .ok (.ixor, 1) := by decide +kernel
theorem dX12_cleared_97 : decode cX12_cleared 97 = .ok (.iand, 1) := by decide +kernel
theorem dX12_cleared_98 : decode cX12_cleared 98 = .ok (.iaload, 1) := by decide +kernel
theorem dX12_cleared_99 : decode cX12_cleared 99 = .ok (.iconst 1, 1) := by decide +kernel
theorem dX12_cleared_100 : decode cX12_cleared 100 = .ok (.iadd, 1) := by decide +kernel
theorem dX12_cleared_101 : decode cX12_cleared 101 = .ok (.goto 5, 3) := by decide +kernel
theorem dX12_cleared_104 : decode cX12_cleared 104 = .ok (.ldc 200, 2) := by decide +kernel
theorem dX12_cleared_106 : decode cX12_cleared 106 = .ok (.istore 4, 2) := by decide +kernel
theorem dX12_cleared_108 : decode cX12_cleared 108 = .ok (.aload_n 0, 1) := by decide +kernel
theorem dX12_cleared_109 : decode cX12_cleared 109 = .ok (.getfield 30, 3) := by decide +kernel
theorem dX12_cleared_112 : decode cX12_cleared 112 = .ok (.iload_n 2, 1) := by decide +kernel
theorem dX12_cleared_113 : decode cX12_cleared 113 = .ok (.iload 4, 2) := by decide +kernel
theorem dX12_cleared_115 : decode cX12_cleared 115 = .ok (.aload_n 0, 1) := by decide +kernel
theorem dX12_cleared_116 : decode cX12_cleared 116 = .ok (.getfield 30, 3) := by decide +kernel
theorem dX12_cleared_119 : decode cX12_cleared 119 = .ok (.iload_n 2, 1) := by decide +kernel
theorem dX12_cleared_120 : decode cX12_cleared 120 = .ok (.iaload, 1) := by decide +kernel
theorem dX12_cleared_121 : decode cX12_cleared 121 = .ok (.if_icmp .le 8, 3) := by decide +kernel
theorem dX12_cleared_124 : decode cX12_cleared 124 = .ok (.iload 4, 2) := by decide +kernel
theorem dX12_cleared_126 : decode cX12_cleared 126 = .ok (.goto 9, 3) := by decide +kernel
theorem dX12_cleared_129 : decode cX12_cleared 129 = .ok (.aload_n 0, 1) := by decide +kernel
theorem dX12_cleared_130 : decode cX12_cleared 130 = .ok (.getfield 30, 3) := by decide +kernel
theorem dX12_cleared_133 : decode cX12_cleared 133 = .ok (.iload_n 2, 1) := by decide +kernel
theorem dX12_cleared_134 : decode cX12_cleared 134 = .ok (.iaload, 1) := by decide +kernel
theorem dX12_cleared_135 : decode cX12_cleared 135 = .ok (.iastore, 1) := by decide +kernel
theorem dX12_cleared_136 : decode cX12_cleared 136 = .ok (.iload_n 3, 1) := by decide +kernel
theorem dX12_cleared_137 : decode cX12_cleared 137 = .ok (.iconst 1, 1) := by decide +kernel
theorem dX12_cleared_138 : decode cX12_cleared 138 = .ok (.isub, 1) := by decide +kernel
theorem dX12_cleared_139 : decode cX12_cleared 139 = .ok (.iload_n 2, 1) := by decide +kernel
theorem dX12_cleared_140 : decode cX12_cleared 140 = .ok (.iand, 1) := by decide +kernel
theorem dX12_cleared_141 : decode cX12_cleared 141 = .ok (.istore_n 3, 1) := by decide +kernel
theorem dX12_cleared_142 : decode cX12_cleared 142 = .ok (.goto (-65), 3) := by decide +kernel
theorem dX12_cleared_145 : decode cX12_cleared 145 = .ok (.iinc 2 1, 3) := by decide +kernel
theorem dX12_cleared_148 : decode cX12_cleared 148 = .ok (.goto (-91), 3) := by decide +kernel
theorem dX12_cleared_151 : decode cX12_cleared 151 = .ok (.iload_n 1, 1) := by decide +kernel
theorem dX12_cleared_152 : decode cX12_cleared 152 = .ok (.invokestatic 175, 3) := by decide +kernel
theorem dX12_cleared_155 : decode cX12_cleared 155 = .ok (.aload_n 0, 1) := by decide +kernel
theorem dX12_cleared_156 : decode cX12_cleared 156 = .ok (.getfield 30, 3) := by decide +kernel
theorem dX12_cleared_159 : decode cX12_cleared 159 = .ok (.iload_n 1, 1) := by decide +kernel
theorem dX12_cleared_160 : decode cX12_cleared 160 = .ok (.iaload, 1) := by decide +kernel
theorem dX12_cleared_161 : decode cX12_cleared 161 = .ok (.isub, 1) := by decide +kernel
theorem dX12_cleared_162 : decode cX12_cleared 162 = .ok (.ireturn, 1) := by decide +kernel
theorem dX12_report_0 : decode cX12_report 0 = .ok (.iload_n 1, 1) := by decide +kernel
theorem dX12_report_1 : decode cX12_report 1 = .ok (.i2l, 1) := by decide +kernel
theorem dX12_report_2 : decode cX12_report 2 = .ok (.lconst 0, 1) := by decide +kernel
theorem dX12_report_3 : decode cX12_report 3 = .ok (.ldc2_w 204, 3) := by decide +kernel
theorem dX12_report_6 : decode cX12_report 6 = .ok (.invokestatic 56, 3) := by decide +kernel
theorem dX12_report_9 : decode cX12_report 9 = .ok (.ifCond .eq 23, 3) := by decide +kernel
theorem dX12_report_12 : decode cX12_report 12 = .ok (.aload_n 0, 1) := by decide +kernel
theorem dX12_report_13 : decode cX12_report 13 = .ok (.iload_n 2, 1) := by decide +kernel
theorem dX12_report_14 : decode cX12_report 14 = .ok (.invokevirtual 85, 3) := by decide +kernel
theorem dX12_report_17 : decode cX12_report 17 = .ok (.ifCond .eq 15, 3) := by decide +kernel
theorem dX12_report_20 : decode cX12_report 20 = .ok (.iload_n 3, 1) := by decide +kernel
theorem dX12_report_21 : decode cX12_report 21 = .ok (.i2l, 1) := by decide +kernel
theorem dX12_report_22 : decode cX12_report 22 = .ok (.lconst 0, 1) := by decide +kernel
theorem dX12_report_23 : decode cX12_report 23 = .ok (.ldc2_w 70, 3) := by decide +kernel
theorem dX12_report_26 : decode cX12_report 26 = .ok (.invokestatic 56, 3) := by decide +kernel
theorem dX12_report_29 : decode cX12_report 29 = .ok (.ifCond .ne 10, 3) := by decide +kernel
theorem dX12_report_32 : decode cX12_report 32 = .ok (.aload_n 0, 1) := by decide +kernel
theorem dX12_report_33 : decode cX12_report 33 = .ok (.bipush (-2), 2) := by decide +kernel
theorem dX12_report_35 : decode cX12_report 35 = .ok (.invokevirtual 64, 3) := by decide +kernel
theorem dX12_report_38 : decode cX12_report 38 = .ok (.ireturn, 1) := by decide +kernel
theorem dX12_report_39 : decode cX12_report 39 = .ok (.aload_n 0, 1) := by decide +kernel
theorem dX12_report_40 : decode cX12_report 40 = .ok (.getfield 7, 3) := by decide +kernel
theorem dX12_report_43 : decode cX12_report 43 = .ok (.bipush 59, 2) := by decide +kernel
theorem dX12_report_45 : decode cX12_report 45 = .ok (.iaload, 1) := by decide +kernel
theorem dX12_report_46 : decode cX12_report 46 = .ok (.bipush 10, 2) := by decide +kernel
theorem dX12_report_48 : decode cX12_report 48 = .ok (.if_icmp .ne 8, 3) := by decide +kernel
theorem dX12_report_51 : decode cX12_report 51 = .ok (.aload_n 0, 1) := by decide +kernel
theorem dX12_report_52 : decode cX12_report 52 = .ok (.invokevirtual 78, 3) := by decide +kernel
theorem dX12_report_55 : decode cX12_report 55 = .ok (.ireturn, 1) := by decide +kernel
theorem dX12_report_56 : decode cX12_report 56 = .ok (.bipush 60, 2) := by decide +kernel
theorem dX12_report_58 : decode cX12_report 58 = .ok (.iconst 3, 1) := by decide +kernel
theorem dX12_report_59 : decode cX12_report 59 = .ok (.aload_n 0, 1) := by decide +kernel
theorem dX12_report_60 : decode cX12_report 60 = .ok (.getfield 7, 3) := by decide +kernel
theorem dX12_report_63 : decode cX12_report 63 = .ok (.bipush 59, 2) := by decide +kernel
theorem dX12_report_65 : decode cX12_report 65 = .ok (.iaload, 1) := by decide +kernel
theorem dX12_report_66 : decode cX12_report 66 = .ok (.imul, 1) := by decide +kernel
theorem dX12_report_67 : decode cX12_report 67 = .ok (.iadd, 1) := by decide +kernel
theorem dX12_report_68 : decode cX12_report 68 = .ok (.istore 4, 2) := by decide +kernel
theorem dX12_report_70 : decode cX12_report 70 = .ok (.aload_n 0, 1) := by decide +kernel
theorem dX12_report_71 : decode cX12_report 71 = .ok (.getfield 7, 3) := by decide +kernel
theorem dX12_report_74 : decode cX12_report 74 = .ok (.iload 4, 2) := by decide +kernel
theorem dX12_report_76 : decode cX12_report 76 = .ok (.iload_n 1, 1) := by decide +kernel
theorem dX12_report_77 : decode cX12_report 77 = .ok (.iastore, 1) := by decide +kernel
theorem dX12_report_78 : decode cX12_report 78 = .ok (.aload_n 0, 1) := by decide +kernel
theorem dX12_report_79 : decode cX12_report 79 = .ok (.getfield 7, 3) := by decide +kernel
theorem dX12_report_82 : decode cX12_report 82 = .ok (.iload 4, 2) := by decide +kernel
theorem dX12_report_84 : decode cX12_report 84 = .ok (.iconst 1, 1) := by decide +kernel
theorem dX12_report_85 : decode cX12_report 85 = .ok (.iadd, 1) := by decide +kernel
theorem dX12_report_86 : decode cX12_report 86 = .ok (.iload_n 2, 1) := by decide +kernel
theorem dX12_report_87 : decode cX12_report 87 = .ok (.iastore, 1) := by decide +kernel
theorem dX12_report_88 : decode cX12_report 88 = .ok (.aload_n 0, 1) := by decide +kernel
theorem dX12_report_89 : decode cX12_report 89 = .ok (.getfield 7, 3) := by decide +kernel
theorem dX12_report_92 : decode cX12_report 92 = .ok (.iload 4, 2) := by decide +kernel
theorem dX12_report_94 : decode cX12_report 94 = .ok (.iconst 2, 1) := by decide +kernel
theorem dX12_report_95 : decode cX12_report 95 = .ok (.iadd, 1) := by decide +kernel
theorem dX12_report_96 : decode cX12_report 96 = .ok (.iload_n 3, 1) := by decide +kernel
theorem dX12_report_97 : decode cX12_report 97 = .ok (.iastore, 1) := by decide +kernel
theorem dX12_report_98 : decode cX12_report 98 = .ok (.aload_n 0, 1) := by decide +kernel
theorem dX12_report_99 : decode cX12_report 99 = .ok (.getfield 7, 3) := by decide +kernel
theorem dX12_report_102 : decode cX12_report 102 = .ok (.bipush 59, 2) := by decide +kernel
theorem dX12_report_104 : decode cX12_report 104 = .ok (.dup2, 1) := by decide +kernel
theorem dX12_report_105 : decode cX12_report 105 = .ok (.iaload, 1) := by decide +kernel
theorem dX12_report_106 : decode cX12_report 106 = .ok (.iconst 1, 1) := by decide +kernel
theorem dX12_report_107 : decode cX12_report 107 = .ok (.iadd, 1) := by decide +kernel
theorem dX12_report_108 : decode cX12_report 108 = .ok (.iastore, 1) := by decide +kernel
theorem dX12_report_109 : decode cX12_report 109 = .ok (.aload_n 0, 1) := by decide +kernel
theorem dX12_report_110 : decode cX12_report 110 = .ok (.getfield 7, 3) := by decide +kernel
theorem dX12_report_113 : decode cX12_report 113 = .ok (.bipush 59, 2) := by decide +kernel
theorem dX12_report_115 : decode cX12_report 115 = .ok (.iaload, 1) := by decide +kernel
theorem dX12_report_116 : decode cX12_report 116 = .ok (.iconst 1, 1) := by decide +kernel
theorem dX12_report_117 : decode cX12_report 117 = .ok (.isub, 1) := by decide +kernel
theorem dX12_report_118 : decode cX12_report 118 = .ok (.ireturn, 1) := by decide +kernel
theorem dX12_areAlike_0 : decode cX12_areAlike 0 = .ok (.iconst 1, 1) := by decide +kernel
theorem dX12_areAlike_1 : decode cX12_areAlike 1 = .ok (.istore_n 2, 1) := by decide +kernel
theorem dX12_areAlike_2 : decode cX12_areAlike 2 = .ok (.iconst 0, 1) := by decide +kernel
theorem dX12_areAlike_3 : decode cX12_areAlike 3 = .ok (.istore_n 3, 1) := by decide +kernel
theorem dX12_areAlike_4 : decode cX12_areAlike 4 = .ok (.iload_n 3, 1) := by decide +kernel
theorem dX12_areAlike_5 : decode cX12_areAlike 5 = .ok (.aload_n 0, 1) := by decide +kernel
theorem dX12_areAlike_6 : decode cX12_areAlike 6 = .ok (.getfield 7, 3) := by decide +kernel
theorem dX12_areAlike_9 : decode cX12_areAlike 9 = .ok (.bipush 59, 2) := by decide +kernel
theorem dX12_areAlike_11 : decode cX12_areAlike 11 = .ok (.iaload, 1) := by decide +kernel
theorem dX12_areAlike_12 : decode cX12_areAlike 12 = .ok (.aload_n 0, 1) := by decide +kernel
theorem dX12_areAlike_13 : decode cX12_areAlike 13 = .ok (.getfield 7, 3) := by decide +kernel
theorem dX12_areAlike_16 : decode cX12_areAlike 16 = .ok (.bipush 59, 2) := by decide +kernel
theorem dX12_areAlike_18 : decode cX12_areAlike 18 = .ok (.iaload, 1) := by decide +kernel
theorem dX12_areAlike_19 : decode cX12_areAlike 19 = .ok (.imul, 1) := by decide +kernel
theorem dX12_areAlike_20 : decode cX12_areAlike 20 = .ok (.if_icmp .ge 133, 3) := by decide +kernel
theorem dX12_areAlike_23 : decode cX12_areAlike 23 = .ok (.bipush 60, 2) := by decide +kernel
theorem dX12_areAlike_25 : decode cX12_areAlike 25 = .ok (.iconst 3, 1) := by decide +kernel
theorem dX12_areAlike_26 : decode cX12_areAlike 26 = .ok (.iload_n 3, 1) := by decide +kernel
theorem dX12_areAlike_27 : decode cX12_areAlike 27 = .ok (.aload_n 0, 1) := by decide +kernel
theorem dX12_areAlike_28 : decode cX12_areAlike 28 = .ok (.getfield 7, 3) := by decide +kernel
theorem dX12_areAlike_31 : decode cX12_areAlike 31 = .ok (.bipush 59, 2) := by decide +kernel
theorem dX12_areAlike_33 : decode cX12_areAlike 33 = .ok (.iaload, 1) := by decide +kernel
theorem dX12_areAlike_34 : decode cX12_areAlike 34 = .ok (.idiv, 1) := by decide +kernel
theorem dX12_areAlike_35 : decode cX12_areAlike 35 = .ok (.imul, 1) := by decide +kernel
theorem dX12_areAlike_36 : decode cX12_areAlike 36 = .ok (.iadd, 1) := by decide +kernel
theorem dX12_areAlike_37 : decode cX12_areAlike 37 = .ok (.istore 4, 2) := by decide +kernel
theorem dX12_areAlike_39 : decode cX12_areAlike 39 = .ok (.bipush 60, 2) := by decide +kernel
theorem dX12_areAlike_41 : decode cX12_areAlike 41 = .ok (.iconst 3, 1) := by decide +kernel
theorem dX12_areAlike_42 : decode cX12_areAlike 42 = .ok (.iload_n 3, 1) := by decide +kernel
theorem dX12_areAlike_43 : decode cX12_areAlike 43 = .ok (.aload_n 0, 1) := by decide +kernel
theorem dX12_areAlike_44 : decode cX12_areAlike 44 = .ok (.getfield 7, 3) := by decide +kernel
theorem dX12_areAlike_47 : decode cX12_areAlike 47 = .ok (.bipush 59, 2) := by decide +kernel
theorem dX12_areAlike_49 : decode cX12_areAlike 49 = .ok (.iaload, 1) := by decide +kernel
theorem dX12_areAlike_50 : decode cX12_areAlike 50 = .ok (.irem, 1) := by decide +kernel
theorem dX12_areAlike_51 : decode cX12_areAlike 51 = .ok (.imul, 1) := by decide +kernel
theorem dX12_areAlike_52 : decode cX12_areAlike 52 = .ok (.iadd, 1) := by decide +kernel
theorem dX12_areAlike_53 : decode cX12_areAlike 53 = .ok (.istore 5, 2) := by decide +kernel
theorem dX12_areAlike_55 : decode cX12_areAlike 55 = .ok (.iload_n 1, 1) := by decide +kernel
theorem dX12_areAlike_56 : decode cX12_areAlike 56 = .ok (.aload_n 0, 1) := by decide +kernel
theorem dX12_areAlike_57 : decode cX12_areAlike 57 = .ok (.getfield 7, 3) := by decide +kernel
theorem dX12_areAlike_60 : decode cX12_areAlike 60 = .ok (.iload 4, 2) := by decide +kernel
theorem dX12_areAlike_62 : decode cX12_areAlike 62 = .ok (.iconst 1, 1) := by decide +kernel
theorem dX12_areAlike_63 : decode cX12_areAlike 63 = .ok (.iadd, 1) := by decide +kernel
theorem dX12_areAlike_64 : decode cX12_areAlike 64 = .ok (.iaload, 1) := by decide +kernel
theorem dX12_areAlike_65 : decode cX12_areAlike 65 = .ok (.ishr, 1) := by decide +kernel
theorem dX12_areAlike_66 : decode cX12_areAlike 66 = .ok (.iconst 1, 1) := by decide +kernel
theorem dX12_areAlike_67 : decode cX12_areAlike 67 = .ok (.iand, 1) := by decide +kernel
theorem dX12_areAlike_68 : decode cX12_areAlike 68 = .ok (.ifCond .ne 23, 3) := by decide +kernel
theorem dX12_areAlike_71 : decode cX12_areAlike 71 = .ok (.iload_n 1, 1) := by decide +kernel
theorem dX12_areAlike_72 : decode cX12_areAlike 72 = .ok (.aload_n 0, 1) := by decide +kernel
theorem dX12_areAlike_73 : decode cX12_areAlike 73 = .ok (.getfield 7, 3) := by decide +kernel
theorem dX12_areAlike_76 : decode cX12_areAlike 76 = .ok (.iload 5, 2) := by decide +kernel
theorem dX12_areAlike_78 : decode cX12_areAlike 78 = .ok (.iconst 1, 1) := by decide +kernel
theorem dX12_areAlike_79 : decode cX12_areAlike 79 = .ok (.iadd, 1) := by decide +kernel
theorem dX12_areAlike_80 : decode cX12_areAlike 80 = .ok (.iaload, 1) := by decide +kernel
theorem dX12_areAlike_81 : decode cX12_areAlike 81 = .ok (.ishr, 1) := by decide +kernel
theorem dX12_areAlike_82 : decode cX12_areAlike 82 = .ok (.iconst 1, 1) := by decide +kernel
theorem dX12_areAlike_83 : decode cX12_areAlike 83 = .ok (.iand, 1) := by decide +kernel
theorem dX12_areAlike_84 : decode cX12_areAlike 84 = .ok (.ifCond .ne 7, 3) := by decide +kernel
theorem dX12_areAlike_87 : decode cX12_areAlike 87 = .ok (.iconst 1, 1) := by decide +kernel
theorem dX12_areAlike_88 : decode cX12_areAlike 88 = .ok (.goto 4, 3) := by decide +kernel
theorem dX12_areAlike_91 : decode cX12_areAlike 91 = .ok (.iconst 0, 1) := by decide +kernel
theorem dX12_areAlike_92 : decode cX12_areAlike 92 = .ok (.istore 6, 2) := by decide +kernel
theorem dX12_areAlike_94 : decode cX12_areAlike 94 = .ok (.iload_n 2, 1) := by decide +kernel
theorem dX12_areAlike_95 : decode cX12_areAlike 95 = .ok (.ifCond .eq 50, 3) := by decide +kernel
theorem dX12_areAlike_98 : decode cX12_areAlike 98 = .ok (.iload 6, 2) := by decide +kernel
theorem dX12_areAlike_100 : decode cX12_areAlike 100 = .ok (.ifCond .eq 41, 3) := by decide +kernel
theorem dX12_areAlike_103 : decode cX12_areAlike 103 = .ok (.aload_n 0, 1) := by decide +kernel
theorem dX12_areAlike_104 : decode cX12_areAlike 104 = .ok (.getfield 7, 3) := by decide +kernel
theorem dX12_areAlike_107 : decode cX12_areAlike 107 = .ok (.iload 4, 2) := by decide +kernel
theorem dX12_areAlike_109 : decode cX12_areAlike 109 = .ok (.iaload, 1) := by decide +kernel
theorem dX12_areAlike_110 : decode cX12_areAlike 110 = .ok (.aload_n 0, 1) := by decide +kernel
theorem dX12_areAlike_111 : decode cX12_areAlike 111 = .ok (.getfield 7, 3) := by decide +kernel
theorem dX12_areAlike_114 : decode cX12_areAlike 114 = .ok (.iload 5, 2) := by decide +kernel
theorem dX12_areAlike_116 : decode cX12_areAlike 116 = .ok (.iaload, 1) := by decide +kernel
theorem dX12_areAlike_117 : decode cX12_areAlike 117 = .ok (.if_icmp .ne 24, 3) := by decide +kernel
theorem dX12_areAlike_120 : decode cX12_areAlike 120 = .ok (.aload_n 0, 1) := by decide +kernel
theorem dX12_areAlike_121 : decode cX12_areAlike 121 = .ok (.getfield 7, 3) := by decide +kernel
theorem dX12_areAlike_124 : decode cX12_areAlike 124 = .ok (.iload 4, 2) := by decide +kernel
theorem dX12_areAlike_126 : decode cX12_areAlike 126 = .ok (.iconst 2, 1) := by decide +kernel
theorem dX12_areAlike_127 : decode cX12_areAlike 127 = .ok (.iadd, 1) := by decide +kernel
theorem dX12_areAlike_128 : decode cX12_areAlike 128 = .ok (.iaload, 1) := by decide +kernel
theorem dX12_areAlike_129 : decode cX12_areAlike 129 = .ok (.aload_n 0, 1) := by decide +kernel
theorem dX12_areAlike_130 : decode cX12_areAlike 130 = .ok (.getfield 7, 3) := by decide +kernel
theorem dX12_areAlike_133 : decode cX12_areAlike 133 = .ok (.iload 5, 2) := by decide +kernel
theorem dX12_areAlike_135 : decode cX12_areAlike 135 = .ok (.iconst 2, 1) := by decide +kernel
theorem dX12_areAlike_136 : decode cX12_areAlike 136 = .ok (.iadd, 1) := by decide +kernel
theorem dX12_areAlike_137 : decode cX12_areAlike 137 = .ok (.iaload, 1) := by decide +kernel
theorem dX12_areAlike_138 : decode cX12_areAlike 138 = .ok (.if_icmp .ne 7, 3) := by decide +kernel
theorem dX12_areAlike_141 : decode cX12_areAlike 141 = .ok (.iconst 1, 1) := by decide +kernel
theorem dX12_areAlike_142 : decode cX12_areAlike 142 = .ok (.goto 4, 3) := by decide +kernel
theorem dX12_areAlike_145 : decode cX12_areAlike 145 = .ok (.iconst 0, 1) := by decide +kernel
theorem dX12_areAlike_146 : decode cX12_areAlike 146 = .ok (.istore_n 2, 1) := by decide +kernel
theorem dX12_areAlike_147 : decode cX12_areAlike 147 = .ok (.iinc 3 1, 3) := by decide +kernel
theorem dX12_areAlike_150 : decode cX12_areAlike 150 = .ok (.goto (-146), 3) := by decide +kernel
theorem dX12_areAlike_153 : decode cX12_areAlike 153 = .ok (.iload_n 2, 1) := by decide +kernel
theorem dX12_areAlike_154 : decode cX12_areAlike 154 = .ok (.ireturn, 1) := by decide +kernel
theorem dX12_liars_0 : decode cX12_liars 0 = .ok (.iload_n 1, 1) := by decide +kernel
theorem dX12_liars_1 : decode cX12_liars 1 = .ok (.i2l, 1) := by decide +kernel
theorem dX12_liars_2 : decode cX12_liars 2 = .ok (.lconst 0, 1) := by decide +kernel
theorem dX12_liars_3 : decode cX12_liars 3 = .ok (.lconst 1, 1) := by decide +kernel
theorem dX12_liars_4 : decode cX12_liars 4 = .ok (.invokestatic 56, 3) := by decide +kernel
theorem dX12_liars_7 : decode cX12_liars 7 = .ok (.ifCond .ne 10, 3) := by decide +kernel
theorem dX12_liars_10 : decode cX12_liars 10 = .ok (.aload_n 0, 1) := by decide +kernel
theorem dX12_liars_11 : decode cX12_liars 11 = .ok (.bipush (-2), 2) := by decide +kernel
theorem dX12_liars_13 : decode cX12_liars 13 = .ok (.invokevirtual 64, 3) := by decide +kernel
theorem dX12_liars_16 : decode cX12_liars 16 = .ok (.ireturn, 1) := by decide +kernel
theorem dX12_liars_17 : decode cX12_liars 17 = .ok (.iconst (-1), 1) := by decide +kernel
theorem dX12_liars_18 : decode cX12_liars 18 = .ok (.istore_n 2, 1) := by decide +kernel
theorem dX12_liars_19 : decode cX12_liars 19 = .ok (.iconst 1, 1) := by decide +kernel
theorem dX12_liars_20 : decode cX12_liars 20 = .ok (.aload_n 0, 1) := by decide +kernel
theorem dX12_liars_21 : decode cX12_liars 21 = .ok (.invokevirtual 52, 3) := by decide +kernel
theorem dX12_liars_24 : decode cX12_liars 24 = .ok (.ishl, 1) := by decide +kernel
theorem dX12_liars_25 : decode cX12_liars 25 = .ok (.iconst 1, 1) := by decide +kernel
theorem dX12_liars_26 : decode cX12_liars 26 = .ok (.isub, 1) := by decide +kernel
theorem dX12_liars_27 : decode cX12_liars 27 = .ok (.istore_n 3, 1) := by decide +kernel
theorem dX12_liars_28 : decode cX12_liars 28 = .ok (.iconst 0, 1) := by decide +kernel
theorem dX12_liars_29 : decode cX12_liars 29 = .ok (.istore 4, 2) := by decide +kernel
theorem dX12_liars_31 : decode cX12_liars 31 = .ok (.iload 4, 2) := by decide +kernel
theorem dX12_liars_33 : decode cX12_liars 33 = .ok (.iconst 1, 1) := by decide +kernel
theorem dX12_liars_34 : decode cX12_liars 34 = .ok (.aload_n 0, 1) := by decide +kernel
theorem dX12_liars_35 : decode cX12_liars 35 = .ok (.invokevirtual 52, 3) := by decide +kernel
theorem dX12_liars_38 : decode cX12_liars 38 = .ok (.ishl, 1) := by decide +kernel
theorem dX12_liars_39 : decode cX12_liars 39 = .ok (.if_icmp .ge 60, 3) := by decide +kernel
theorem dX12_liars_42 : decode cX12_liars 42 = .ok (.aload_n 0, 1) := by decide +kernel
theorem dX12_liars_43 : decode cX12_liars 43 = .ok (.iload 4, 2) := by decide +kernel
theorem dX12_liars_45 : decode cX12_liars 45 = .ok (.invokevirtual 206, 3) := by decide +kernel
theorem dX12_liars_48 : decode cX12_liars 48 = .ok (.istore 5, 2) := by decide +kernel
theorem dX12_liars_50 : decode cX12_liars 50 = .ok (.iload 5, 2) := by decide +kernel
theorem dX12_liars_52 : decode cX12_liars 52 = .ok (.ifCond .eq 25, 3) := by decide +kernel
theorem dX12_liars_55 : decode cX12_liars 55 = .ok (.iload_n 2, 1) := by decide +kernel
theorem dX12_liars_56 : decode cX12_liars 56 = .ok (.iconst (-1), 1) := by decide +kernel
theorem dX12_liars_57 : decode cX12_liars 57 = .ok (.if_icmp .eq 15, 3) := by decide +kernel
theorem dX12_liars_60 : decode cX12_liars 60 = .ok (.iload 4, 2) := by decide +kernel
theorem dX12_liars_62 : decode cX12_liars 62 = .ok (.invokestatic 175, 3) := by decide +kernel
theorem dX12_liars_65 : decode cX12_liars 65 = .ok (.iload_n 2, 1) := by decide +kernel
theorem dX12_liars_66 : decode cX12_liars 66 = .ok (.invokestatic 175, 3) := by decide +kernel
theorem dX12_liars_69 : decode cX12_liars 69 = .ok (.if_icmp .ge 8, 3) := by decide +kernel
theorem dX12_liars_72 : decode cX12_liars 72 = .ok (.iload 4, 2) := by decide +kernel
theorem dX12_liars_74 : decode cX12_liars 74 = .ok (.goto 4, 3) := by decide +kernel
theorem dX12_liars_77 : decode cX12_liars 77 = .ok (.iload_n 2, 1) := by decide +kernel
theorem dX12_liars_78 : decode cX12_liars 78 = .ok (.istore_n 2, 1) := by decide +kernel
theorem dX12_liars_79 : decode cX12_liars 79 = .ok (.iload_n 3, 1) := by decide +kernel
theorem dX12_liars_80 : decode cX12_liars 80 = .ok (.iload 5, 2) := by decide +kernel
theorem dX12_liars_82 : decode cX12_liars 82 = .ok (.ifCond .eq 8, 3) := by decide +kernel
theorem dX12_liars_85 : decode cX12_liars 85 = .ok (.iload 4, 2) := by decide +kernel
theorem dX12_liars_87 : decode cX12_liars 87 = .ok (.goto 4, 3) := by decide +kernel
theorem dX12_liars_90 : decode cX12_liars 90 = .ok (.iconst (-1), 1) := by decide +kernel
theorem dX12_liars_91 : decode cX12_liars 91 = .ok (.iand, 1) := by decide +kernel
theorem dX12_liars_92 : decode cX12_liars 92 = .ok (.istore_n 3, 1) := by decide +kernel
theorem dX12_liars_93 : decode cX12_liars 93 = .ok (.iinc 4 1, 3) := by decide +kernel
theorem dX12_liars_96 : decode cX12_liars 96 = .ok (.goto (-65), 3) := by decide +kernel
theorem dX12_liars_99 : decode cX12_liars 99 = .ok (.iload_n 1, 1) := by decide +kernel
theorem dX12_liars_100 : decode cX12_liars 100 = .ok (.ifCond .ne 7, 3) := by decide +kernel
theorem dX12_liars_103 : decode cX12_liars 103 = .ok (.iload_n 2, 1) := by decide +kernel
theorem dX12_liars_104 : decode cX12_liars 104 = .ok (.goto 4, 3) := by decide +kernel
theorem dX12_liars_107 : decode cX12_liars 107 = .ok (.iload_n 3, 1) := by decide +kernel
theorem dX12_liars_108 : decode cX12_liars 108 = .ok (.ireturn, 1) := by decide +kernel
theorem dX12_none_0 : decode cX12_none 0 = .ok (.iload_n 1, 1) := by decide +kernel
theorem dX12_none_1 : decode cX12_none 1 = .ok (.i2l, 1) := by decide +kernel
theorem dX12_none_2 : decode cX12_none 2 = .ok (.lconst 0, 1) := by decide +kernel
theorem dX12_none_3 : decode cX12_none 3 = .ok (.ldc2_w 60, 3) := by decide +kernel
theorem dX12_none_6 : decode cX12_none 6 = .ok (.invokestatic 56, 3) := by decide +kernel
theorem dX12_none_9 : decode cX12_none 9 = .ok (.ifCond .ne 10, 3) := by decide +kernel
theorem dX12_none_12 : decode cX12_none 12 = .ok (.aload_n 0, 1) := by decide +kernel
theorem dX12_none_13 : decode cX12_none 13 = .ok (.bipush (-2), 2) := by decide +kernel
theorem dX12_none_15 : decode cX12_none 15 = .ok (.invokevirtual 64, 3) := by decide +kernel
theorem dX12_none_18 : decode cX12_none 18 = .ok (.ireturn, 1) := by decide +kernel
theorem dX12_none_19 : decode cX12_none 19 = .ok (.iload_n 1, 1) := by decide +kernel
theorem dX12_none_20 : decode cX12_none 20 = .ok (.ifCond .ne 8, 3) := by decide +kernel
theorem dX12_none_23 : decode cX12_none 23 = .ok (.bipush 33, 2) := by decide +kernel
theorem dX12_none_25 : decode cX12_none 25 = .ok (.goto 15, 3) := by decide +kernel
theorem dX12_none_28 : decode cX12_none 28 = .ok (.iload_n 1, 1) := by decide +kernel
theorem dX12_none_29 : decode cX12_none 29 = .ok (.iconst 1, 1) := by decide +kernel
theorem dX12_none_30 : decode cX12_none 30 = .ok (.if_icmp .ne 8, 3) := by decide +kernel
theorem dX12_none_33 : decode cX12_none 33 = .ok (.bipush 59, 2) := by decide +kernel
theorem dX12_none_35 : decode cX12_none 35 = .ok (.goto 5, 3) := by decide +kernel
theorem dX12_none_38 : decode cX12_none 38 = .ok (.bipush 90, 2) := by decide +kernel
theorem dX12_none_40 : decode cX12_none 40 = .ok (.istore_n 2, 1) := by decide +kernel
theorem dX12_none_41 : decode cX12_none 41 = .ok (.aload_n 0, 1) := by decide +kernel
theorem dX12_none_42 : decode cX12_none 42 = .ok (.getfield 7, 3) := by decide +kernel
theorem dX12_none_45 : decode cX12_none 45 = .ok (.iload_n 2, 1) := by decide +kernel
theorem dX12_none_46 : decode cX12_none 46 = .ok (.iaload, 1) := by decide +kernel
theorem dX12_none_47 : decode cX12_none 47 = .ok (.istore_n 3, 1) := by decide +kernel
theorem dX12_none_48 : decode cX12_none 48 = .ok (.aload_n 0, 1) := by decide +kernel
theorem dX12_none_49 : decode cX12_none 49 = .ok (.getfield 7, 3) := by decide +kernel
theorem dX12_none_52 : decode cX12_none 52 = .ok (.iload_n 2, 1) := by decide +kernel
theorem dX12_none_53 : decode cX12_none 53 = .ok (.iconst 0, 1) := by decide +kernel
theorem dX12_none_54 : decode cX12_none 54 = .ok (.iastore, 1) := by decide +kernel
theorem dX12_none_55 : decode cX12_none 55 = .ok (.iload_n 3, 1) := by decide +kernel
theorem dX12_none_56 : decode cX12_none 56 = .ok (.ireturn, 1) := by decide +kernel
theorem dX12_place_0 : decode cX12_place 0 = .ok (.iload_n 1, 1) := by decide +kernel
theorem dX12_place_1 : decode cX12_place 1 = .ok (.istore_n 2, 1) := by decide +kernel
theorem dX12_place_2 : decode cX12_place 2 = .ok (.iconst 0, 1) := by decide +kernel
theorem dX12_place_3 : decode cX12_place 3 = .ok (.istore_n 3, 1) := by decide +kernel
theorem dX12_place_4 : decode cX12_place 4 = .ok (.iload_n 0, 1) := by decide +kernel
theorem dX12_place_5 : decode cX12_place 5 = .ok (.iload_n 3, 1) := by decide +kernel
theorem dX12_place_6 : decode cX12_place 6 = .ok (.ishr, 1) := by decide +kernel
theorem dX12_place_7 : decode cX12_place 7 = .ok (.iconst 1, 1) := by decide +kernel
theorem dX12_place_8 : decode cX12_place 8 = .ok (.iand, 1) := by decide +kernel
theorem dX12_place_9 : decode cX12_place 9 = .ok (.iconst 1, 1) := by decide +kernel
theorem dX12_place_10 : decode cX12_place 10 = .ok (.if_icmp .eq 7, 3) := by decide +kernel
theorem dX12_place_13 : decode cX12_place 13 = .ok (.iload_n 2, 1) := by decide +kernel
theorem dX12_place_14 : decode cX12_place 14 = .ok (.ifCond .le 25, 3) := by decide +kernel
theorem dX12_place_17 : decode cX12_place 17 = .ok (.iload_n 2, 1) := by decide +kernel
theorem dX12_place_18 : decode cX12_place 18 = .ok (.iload_n 0, 1) := by decide +kernel
theorem dX12_place_19 : decode cX12_place 19 = .ok (.iload_n 3, 1) := by decide +kernel
theorem dX12_place_20 : decode cX12_place 20 = .ok (.ishr, 1) := by decide +kernel
theorem dX12_place_21 : decode cX12_place 21 = .ok (.iconst 1, 1) := by decide +kernel
theorem dX12_place_22 : decode cX12_place 22 = .ok (.iand, 1) := by decide +kernel
theorem dX12_place_23 : decode cX12_place 23 = .ok (.ifCond .ne 7, 3) := by decide +kernel
theorem dX12_place_26 : decode cX12_place 26 = .ok (.iconst 1, 1) := by decide +kernel
theorem dX12_place_27 : decode cX12_place 27 = .ok (.goto 4, 3) := by decide +kernel
theorem dX12_place_30 : decode cX12_place 30 = .ok (.iconst 0, 1) := by decide +kernel
theorem dX12_place_31 : decode cX12_place 31 = .ok (.isub, 1) := by decide +kernel
theorem dX12_place_32 : decode cX12_place 32 = .ok (.istore_n 2, 1) := by decide +kernel
theorem dX12_place_33 : decode cX12_place 33 = .ok (.iinc 3 1, 3) := by decide +kernel
theorem dX12_place_36 : decode cX12_place 36 = .ok (.goto (-32), 3) := by decide +kernel
theorem dX12_place_39 : decode cX12_place 39 = .ok (.iload_n 3, 1) := by decide +kernel
theorem dX12_place_40 : decode cX12_place 40 = .ok (.ireturn, 1) := by decide +kernel
theorem dX12_lots_0 : decode cX12_lots 0 = .ok (.iload_n 1, 1) := by decide +kernel
theorem dX12_lots_1 : decode cX12_lots 1 = .ok (.i2l, 1) := by decide +kernel
theorem dX12_lots_2 : decode cX12_lots 2 = .ok (.lconst 0, 1) := by decide +kernel
theorem dX12_lots_3 : decode cX12_lots 3 = .ok (.ldc2_w 209, 3) := by decide +kernel
theorem dX12_lots_6 : decode cX12_lots 6 = .ok (.invokestatic 56, 3) := by decide +kernel
theorem dX12_lots_9 : decode cX12_lots 9 = .ok (.ifCond .eq 17, 3) := by decide +kernel
theorem dX12_lots_12 : decode cX12_lots 12 = .ok (.iload_n 2, 1) := by decide +kernel
theorem dX12_lots_13 : decode cX12_lots 13 = .ok (.i2l, 1) := by decide +kernel
theorem dX12_lots_14 : decode cX12_lots 14 = .ok (.lconst 0, 1) := by decide +kernel
theorem dX12_lots_15 : decode cX12_lots 15 = .ok (.aload_n 0, 1) := by decide +kernel
theorem dX12_lots_16 : decode cX12_lots 16 = .ok (.invokevirtual 52, 3) := by decide +kernel
theorem dX12_lots_19 : decode cX12_lots 19 = .ok (.i2l, 1) := by decide +kernel
theorem dX12_lots_20 : decode cX12_lots 20 = .ok (.invokestatic 56, 3) := by decide +kernel
theorem dX12_lots_23 : decode cX12_lots 23 = .ok (.ifCond .ne 10, 3) := by decide +kernel
theorem dX12_lots_26 : decode cX12_lots 26 = .ok (.aload_n 0, 1) := by decide +kernel
theorem dX12_lots_27 : decode cX12_lots 27 = .ok (.bipush (-2), 2) := by decide +kernel
theorem dX12_lots_29 : decode cX12_lots 29 = .ok (.invokevirtual 64, 3) := by decide +kernel
theorem dX12_lots_32 : decode cX12_lots 32 = .ok (.ireturn, 1) := by decide +kernel
theorem dX12_lots_33 : decode cX12_lots 33 = .ok (.iload_n 1, 1) := by decide +kernel
theorem dX12_lots_34 : decode cX12_lots 34 = .ok (.i2l, 1) := by decide +kernel
theorem dX12_lots_35 : decode cX12_lots 35 = .ok (.lstore_n 3, 1) := by decide +kernel
theorem dX12_lots_36 : decode cX12_lots 36 = .ok (.iconst 0, 1) := by decide +kernel
theorem dX12_lots_37 : decode cX12_lots 37 = .ok (.istore 5, 2) := by decide +kernel
theorem dX12_lots_39 : decode cX12_lots 39 = .ok (.iconst 0, 1) := by decide +kernel
theorem dX12_lots_40 : decode cX12_lots 40 = .ok (.istore 6, 2) := by decide +kernel
theorem dX12_lots_42 : decode cX12_lots 42 = .ok (.iload 6, 2) := by decide +kernel
theorem dX12_lots_44 : decode cX12_lots 44 = .ok (.iload_n 2, 1) := by decide +kernel
theorem dX12_lots_45 : decode cX12_lots 45 = .ok (.if_icmp .ge 50, 3) := by decide +kernel
theorem dX12_lots_48 : decode cX12_lots 48 = .ok (.lload_n 3, 1) := by decide +kernel
theorem dX12_lots_49 : decode cX12_lots 49 = .ok (.ldc2_w 211, 3) := by decide +kernel
theorem dX12_lots_52 : decode cX12_lots 52 = .ok (.lmul, 1) := by decide +kernel
theorem dX12_lots_53 : decode cX12_lots 53 = .ok (.ldc2_w 213, 3) := by decide +kernel
theorem dX12_lots_56 : decode cX12_lots 56 = .ok (.ladd, 1) := by decide +kernel
theorem dX12_lots_57 : decode cX12_lots 57 = .ok (.ldc2_w 215, 3) := by decide +kernel
theorem dX12_lots_60 : decode cX12_lots 60 = .ok (.lrem, 1) := by decide +kernel
theorem dX12_lots_61 : decode cX12_lots 61 = .ok (.lstore_n 3, 1) := by decide +kernel
theorem dX12_lots_62 : decode cX12_lots 62 = .ok (.iload 5, 2) := by decide +kernel
theorem dX12_lots_64 : decode cX12_lots 64 = .ok (.iconst 1, 1) := by decide +kernel
theorem dX12_lots_65 : decode cX12_lots 65 = .ok (.iload 5, 2) := by decide +kernel
theorem dX12_lots_67 : decode cX12_lots 67 = .ok (.lload_n 3, 1) := by decide +kernel
theorem dX12_lots_68 : decode cX12_lots 68 = .ok (.ldc2_w 217, 3) := by decide +kernel
theorem dX12_lots_71 : decode cX12_lots 71 = .ok (.ldiv, 1) := by decide +kernel
theorem dX12_lots_72 : decode cX12_lots 72 = .ok (.aload_n 0, 1) := by decide +kernel
theorem dX12_lots_73 : decode cX12_lots 73 = .ok (.invokevirtual 52, 3) := by decide +kernel
theorem dX12_lots_76 : decode cX12_lots 76 = .ok (.iload 6, 2) := by decide +kernel
theorem dX12_lots_78 : decode cX12_lots 78 = .ok (.isub, 1) := by decide +kernel
theorem dX12_lots_79 : decode cX12_lots 79 = .ok (.i2l, 1) := by decide +kernel
theorem dX12_lots_80 : decode cX12_lots 80 = .ok (.lrem, 1) := by decide +kernel
theorem dX12_lots_81 : decode cX12_lots 81 = .ok (.l2i, 1) := by decide +kernel
theorem dX12_lots_82 : decode cX12_lots 82 = .ok (.invokestatic 219, 3) := by decide +kernel
theorem dX12_lots_85 : decode cX12_lots 85 = .ok (.ishl, 1) := by decide +kernel
theorem dX12_lots_86 : decode cX12_lots 86 = .ok (.ior, 1) := by decide +kernel
theorem dX12_lots_87 : decode cX12_lots 87 = .ok (.istore 5, 2) := by decide +kernel
theorem dX12_lots_89 : decode cX12_lots 89 = .ok (.iinc 6 1, 3) := by decide +kernel
theorem dX12_lots_92 : decode cX12_lots 92 = .ok (.goto (-50), 3) := by decide +kernel
theorem dX12_lots_95 : decode cX12_lots 95 = .ok (.iload 5, 2) := by decide +kernel
theorem dX12_lots_97 : decode cX12_lots 97 = .ok (.ireturn, 1) := by decide +kernel
theorem dX12_hears_0 : decode cX12_hears 0 = .ok (.aload_n 0, 1) := by decide +kernel
theorem dX12_hears_1 : decode cX12_hears 1 = .ok (.getfield 36, 3) := by decide +kernel
theorem dX12_hears_4 : decode cX12_hears 4 = .ok (.iconst 0, 1) := by decide +kernel
theorem dX12_hears_5 : decode cX12_hears 5 = .ok (.iload_n 1, 1) := by decide +kernel
theorem dX12_hears_6 : decode cX12_hears 6 = .ok (.iastore, 1) := by decide +kernel
theorem dX12_hears_7 : decode cX12_hears 7 = .ok (.aload_n 0, 1) := by decide +kernel
theorem dX12_hears_8 : decode cX12_hears 8 = .ok (.getfield 36, 3) := by decide +kernel
theorem dX12_hears_11 : decode cX12_hears 11 = .ok (.iconst 1, 1) := by decide +kernel
theorem dX12_hears_12 : decode cX12_hears 12 = .ok (.iload_n 2, 1) := by decide +kernel
theorem dX12_hears_13 : decode cX12_hears 13 = .ok (.iastore, 1) := by decide +kernel
theorem dX12_hears_14 : decode cX12_hears 14 = .ok (.aload_n 0, 1) := by decide +kernel
theorem dX12_hears_15 : decode cX12_hears 15 = .ok (.getfield 36, 3) := by decide +kernel
theorem dX12_hears_18 : decode cX12_hears 18 = .ok (.iconst 2, 1) := by decide +kernel
theorem dX12_hears_19 : decode cX12_hears 19 = .ok (.iload_n 3, 1) := by decide +kernel
theorem dX12_hears_20 : decode cX12_hears 20 = .ok (.iastore, 1) := by decide +kernel
theorem dX12_hears_21 : decode cX12_hears 21 = .ok (.aload_n 0, 1) := by decide +kernel
theorem dX12_hears_22 : decode cX12_hears 22 = .ok (.getfield 36, 3) := by decide +kernel
theorem dX12_hears_25 : decode cX12_hears 25 = .ok (.iconst 3, 1) := by decide +kernel
theorem dX12_hears_26 : decode cX12_hears 26 = .ok (.iload 4, 2) := by decide +kernel
theorem dX12_hears_28 : decode cX12_hears 28 = .ok (.iastore, 1) := by decide +kernel
theorem dX12_hears_29 : decode cX12_hears 29 = .ok (.aload_n 0, 1) := by decide +kernel
theorem dX12_hears_30 : decode cX12_hears 30 = .ok (.getfield 36, 3) := by decide +kernel
theorem dX12_hears_33 : decode cX12_hears 33 = .ok (.iconst 4, 1) := by decide +kernel
theorem dX12_hears_34 : decode cX12_hears 34 = .ok (.iload 5, 2) := by decide +kernel
theorem dX12_hears_36 : decode cX12_hears 36 = .ok (.iastore, 1) := by decide +kernel
theorem dX12_hears_37 : decode cX12_hears 37 = .ok (.aload_n 0, 1) := by decide +kernel
theorem dX12_hears_38 : decode cX12_hears 38 = .ok (.getfield 36, 3) := by decide +kernel
theorem dX12_hears_41 : decode cX12_hears 41 = .ok (.iconst 5, 1) := by decide +kernel
theorem dX12_hears_42 : decode cX12_hears 42 = .ok (.iload 6, 2) := by decide +kernel
theorem dX12_hears_44 : decode cX12_hears 44 = .ok (.iastore, 1) := by decide +kernel
theorem dX12_hears_45 : decode cX12_hears 45 = .ok (.iconst 1, 1) := by decide +kernel
theorem dX12_hears_46 : decode cX12_hears 46 = .ok (.istore 7, 2) := by decide +kernel
theorem dX12_hears_48 : decode cX12_hears 48 = .ok (.iconst 0, 1) := by decide +kernel
theorem dX12_hears_49 : decode cX12_hears 49 = .ok (.istore 8, 2) := by decide +kernel
theorem dX12_hears_51 : decode cX12_hears 51 = .ok (.iload 8, 2) := by decide +kernel
theorem dX12_hears_53 : decode cX12_hears 53 = .ok (.bipush 6, 2) := by decide +kernel
theorem dX12_hears_55 : decode cX12_hears 55 = .ok (.if_icmp .ge 39, 3) := by decide +kernel
theorem dX12_hears_58 : decode cX12_hears 58 = .ok (.iload 7, 2) := by decide +kernel
theorem dX12_hears_60 : decode cX12_hears 60 = .ok (.ifCond .eq 25, 3) := by decide +kernel
theorem dX12_hears_63 : decode cX12_hears 63 = .ok (.aload_n 0, 1) := by decide +kernel
theorem dX12_hears_64 : decode cX12_hears 64 = .ok (.getfield 36, 3) := by decide +kernel
theorem dX12_hears_67 : decode cX12_hears 67 = .ok (.iload 8, 2) := by decide +kernel
theorem dX12_hears_69 : decode cX12_hears 69 = .ok (.iaload, 1) := by decide +kernel
theorem dX12_hears_70 : decode cX12_hears 70 = .ok (.i2l, 1) := by decide +kernel
theorem dX12_hears_71 : decode cX12_hears 71 = .ok (.lconst 0, 1) := by decide +kernel
theorem dX12_hears_72 : decode cX12_hears 72 = .ok (.ldc2_w 222, 3) := by decide +kernel
theorem dX12_hears_75 : decode cX12_hears 75 = .ok (.invokestatic 56, 3) := by decide +kernel
theorem dX12_hears_78 : decode cX12_hears 78 = .ok (.ifCond .eq 7, 3) := by decide +kernel
theorem dX12_hears_81 : decode cX12_hears 81 = .ok (.iconst 1, 1) := by decide +kernel
theorem dX12_hears_82 : decode cX12_hears 82 = .ok (.goto 4, 3) := by decide +kernel
theorem dX12_hears_85 : decode cX12_hears 85 = .ok (.iconst 0, 1) := by decide +kernel
theorem dX12_hears_86 : decode cX12_hears 86 = .ok (.istore 7, 2) := by decide +kernel
theorem dX12_hears_88 : decode cX12_hears 88 = .ok (.iinc 8 1, 3) := by decide +kernel
theorem dX12_hears_91 : decode cX12_hears 91 = .ok (.goto (-40), 3) := by decide +kernel
theorem dX12_hears_94 : decode cX12_hears 94 = .ok (.iload 7, 2) := by decide +kernel
theorem dX12_hears_96 : decode cX12_hears 96 = .ok (.ireturn, 1) := by decide +kernel
theorem dX12_word_0 : decode cX12_word 0 = .ok (.aload_n 0, 1) := by decide +kernel
theorem dX12_word_1 : decode cX12_word 1 = .ok (.iload_n 1, 1) := by decide +kernel
theorem dX12_word_2 : decode cX12_word 2 = .ok (.iload_n 2, 1) := by decide +kernel
theorem dX12_word_3 : decode cX12_word 3 = .ok (.iload_n 3, 1) := by decide +kernel
theorem dX12_word_4 : decode cX12_word 4 = .ok (.iload 4, 2) := by decide +kernel
theorem dX12_word_6 : decode cX12_word 6 = .ok (.iload 5, 2) := by decide +kernel
theorem dX12_word_8 : decode cX12_word 8 = .ok (.iload 6, 2) := by decide +kernel
theorem dX12_word_10 : decode cX12_word 10 = .ok (.invokevirtual 224, 3) := by decide +kernel
theorem dX12_word_13 : decode cX12_word 13 = .ok (.ifCond .ne 10, 3) := by decide +kernel
theorem dX12_word_16 : decode cX12_word 16 = .ok (.aload_n 0, 1) := by decide +kernel
theorem dX12_word_17 : decode cX12_word 17 = .ok (.bipush (-2), 2) := by decide +kernel
theorem dX12_word_19 : decode cX12_word 19 = .ok (.invokevirtual 64, 3) := by decide +kernel
theorem dX12_word_22 : decode cX12_word 22 = .ok (.ireturn, 1) := by decide +kernel
theorem dX12_word_23 : decode cX12_word 23 = .ok (.aload_n 0, 1) := by decide +kernel
theorem dX12_word_24 : decode cX12_word 24 = .ok (.getfield 7, 3) := by decide +kernel
theorem dX12_word_27 : decode cX12_word 27 = .ok (.bipush 90, 2) := by decide +kernel
theorem dX12_word_29 : decode cX12_word 29 = .ok (.iaload, 1) := by decide +kernel
theorem dX12_word_30 : decode cX12_word 30 = .ok (.iconst 4, 1) := by decide +kernel
theorem dX12_word_31 : decode cX12_word 31 = .ok (.if_icmp .ne 8, 3) := by decide +kernel
theorem dX12_word_34 : decode cX12_word 34 = .ok (.aload_n 0, 1) := by decide +kernel
theorem dX12_word_35 : decode cX12_word 35 = .ok (.invokevirtual 78, 3) := by decide +kernel
theorem dX12_word_38 : decode cX12_word 38 = .ok (.ireturn, 1) := by decide +kernel
theorem dX12_word_39 : decode cX12_word 39 = .ok (.iconst 0, 1) := by decide +kernel
theorem dX12_word_40 : decode cX12_word 40 = .ok (.istore 7, 2) := by decide +kernel
theorem dX12_word_42 : decode cX12_word 42 = .ok (.iload 7, 2) := by decide +kernel
theorem dX12_word_44 : decode cX12_word 44 = .ok (.bipush 6, 2) := by decide +kernel
theorem dX12_word_46 : decode cX12_word 46 = .ok (.if_icmp .ge 37, 3) := by decide +kernel
theorem dX12_word_49 : decode cX12_word 49 = .ok (.aload_n 0, 1) := by decide +kernel
theorem dX12_word_50 : decode cX12_word 50 = .ok (.getfield 7, 3) := by decide +kernel
theorem dX12_word_53 : decode cX12_word 53 = .ok (.bipush 91, 2) := by decide +kernel
theorem dX12_word_55 : decode cX12_word 55 = .ok (.bipush 6, 2) := by decide +kernel
theorem dX12_word_57 : decode cX12_word 57 = .ok (.aload_n 0, 1) := by decide +kernel
theorem dX12_word_58 : decode cX12_word 58 = .ok (.getfield 7, 3) := by decide +kernel
theorem dX12_word_61 : decode cX12_word 61 = .ok (.bipush 90, 2) := by decide +kernel
theorem dX12_word_63 : decode cX12_word 63 = .ok (.iaload, 1) := by decide +kernel
theorem dX12_word_64 : decode cX12_word 64 = .ok (.imul, 1) := by decide +kernel
theorem dX12_word_65 : decode cX12_word 65 = .ok (.iadd, 1) := by decide +kernel
theorem dX12_word_66 : decode cX12_word 66 = .ok (.iload 7, 2) := by decide +kernel
theorem dX12_word_68 : decode cX12_word 68 = .ok (.iadd, 1) := by decide +kernel
theorem dX12_word_69 : decode cX12_word 69 = .ok (.aload_n 0, 1) := by decide +kernel
theorem dX12_word_70 : decode cX12_word 70 = .ok (.getfield 36, 3) := by decide +kernel
theorem dX12_word_73 : decode cX12_word 73 = .ok (.iload 7, 2) := by decide +kernel
theorem dX12_word_75 : decode cX12_word 75 = .ok (.iaload, 1) := by decide +kernel
theorem dX12_word_76 : decode cX12_word 76 = .ok (.iastore, 1) := by decide +kernel
theorem dX12_word_77 : decode cX12_word 77 = .ok (.iinc 7 1, 3) := by decide +kernel
theorem dX12_word_80 : decode cX12_word 80 = .ok (.goto (-38), 3) := by decide +kernel
theorem dX12_word_83 : decode cX12_word 83 = .ok (.aload_n 0, 1) := by decide +kernel
theorem dX12_word_84 : decode cX12_word 84 = .ok (.getfield 7, 3) := by decide +kernel
theorem dX12_word_87 : decode cX12_word 87 = .ok (.bipush 90, 2) := by decide +kernel
theorem dX12_word_89 : decode cX12_word 89 = .ok (.dup2, 1) := by decide +kernel
theorem dX12_word_90 : decode cX12_word 90 = .ok (.iaload, 1) := by decide +kernel
theorem dX12_word_91 : decode cX12_word 91 = .ok (.iconst 1, 1) := by decide +kernel
theorem dX12_word_92 : decode cX12_word 92 = .ok (.iadd, 1) := by decide +kernel
theorem dX12_word_93 : decode cX12_word 93 = .ok (.iastore, 1) := by decide +kernel
theorem dX12_word_94 : decode cX12_word 94 = .ok (.aload_n 0, 1) := by decide +kernel
theorem dX12_word_95 : decode cX12_word 95 = .ok (.getfield 7, 3) := by decide +kernel
theorem dX12_word_98 : decode cX12_word 98 = .ok (.bipush 90, 2) := by decide +kernel
theorem dX12_word_100 : decode cX12_word 100 = .ok (.iaload, 1) := by decide +kernel
theorem dX12_word_101 : decode cX12_word 101 = .ok (.iconst 1, 1) := by decide +kernel
theorem dX12_word_102 : decode cX12_word 102 = .ok (.isub, 1) := by decide +kernel
theorem dX12_word_103 : decode cX12_word 103 = .ok (.ireturn, 1) := by decide +kernel
theorem dX12_isWord_0 : decode cX12_isWord 0 = .ok (.iload_n 1, 1) := by decide +kernel
theorem dX12_isWord_1 : decode cX12_isWord 1 = .ok (.i2l, 1) := by decide +kernel
theorem dX12_isWord_2 : decode cX12_isWord 2 = .ok (.lconst 0, 1) := by decide +kernel
theorem dX12_isWord_3 : decode cX12_isWord 3 = .ok (.aload_n 0, 1) := by decide +kernel
theorem dX12_isWord_4 : decode cX12_isWord 4 = .ok (.getfield 7, 3) := by decide +kernel
theorem dX12_isWord_7 : decode cX12_isWord 7 = .ok (.bipush 90, 2) := by decide +kernel
theorem dX12_isWord_9 : decode cX12_isWord 9 = .ok (.iaload, 1) := by decide +kernel
theorem dX12_isWord_10 : decode cX12_isWord 10 = .ok (.iconst 1, 1) := by decide +kernel
theorem dX12_isWord_11 : decode cX12_isWord 11 = .ok (.isub, 1) := by decide +kernel
theorem dX12_isWord_12 : decode cX12_isWord 12 = .ok (.i2l, 1) := by decide +kernel
theorem dX12_isWord_13 : decode cX12_isWord 13 = .ok (.invokestatic 56, 3) := by decide +kernel
theorem dX12_isWord_16 : decode cX12_isWord 16 = .ok (.ireturn, 1) := by decide +kernel
theorem dX12_toldOn_0 : decode cX12_toldOn 0 = .ok (.aload_n 0, 1) := by decide +kernel
theorem dX12_toldOn_1 : decode cX12_toldOn 1 = .ok (.iload_n 1, 1) := by decide +kernel
theorem dX12_toldOn_2 : decode cX12_toldOn 2 = .ok (.invokevirtual 228, 3) := by decide +kernel
theorem dX12_toldOn_5 : decode cX12_toldOn 5 = .ok (.ifCond .eq 27, 3) := by decide +kernel
theorem dX12_toldOn_8 : decode cX12_toldOn 8 = .ok (.iload_n 2, 1) := by decide +kernel
theorem dX12_toldOn_9 : decode cX12_toldOn 9 = .ok (.i2l, 1) := by decide +kernel
theorem dX12_toldOn_10 : decode cX12_toldOn 10 = .ok (.lconst 0, 1) := by decide +kernel
theorem dX12_toldOn_11 : decode cX12_toldOn 11 = .ok (.ldc2_w 231, 3) := by decide +kernel
theorem dX12_toldOn_14 : decode cX12_toldOn 14 = .ok (.invokestatic 56, 3) := by decide +kernel
theorem dX12_toldOn_17 : decode cX12_toldOn 17 = .ok (.ifCond .eq 15, 3) := by decide +kernel
theorem dX12_toldOn_20 : decode cX12_toldOn 20 = .ok (.iload_n 3, 1) := by decide +kernel
theorem dX12_toldOn_21 : decode cX12_toldOn 21 = .ok (.i2l, 1) := by decide +kernel
theorem dX12_toldOn_22 : decode cX12_toldOn 22 = .ok (.lconst 0, 1) := by decide +kernel
theorem dX12_toldOn_23 : decode cX12_toldOn 23 = .ok (.ldc2_w 142, 3) := by decide +kernel
theorem dX12_toldOn_26 : decode cX12_toldOn 26 = .ok (.invokestatic 56, 3) := by decide +kernel
theorem dX12_toldOn_29 : decode cX12_toldOn 29 = .ok (.ifCond .ne 10, 3) := by decide +kernel
theorem dX12_toldOn_32 : decode cX12_toldOn 32 = .ok (.aload_n 0, 1) := by decide +kernel
theorem dX12_toldOn_33 : decode cX12_toldOn 33 = .ok (.bipush (-2), 2) := by decide +kernel
theorem dX12_toldOn_35 : decode cX12_toldOn 35 = .ok (.invokevirtual 64, 3) := by decide +kernel
theorem dX12_toldOn_38 : decode cX12_toldOn 38 = .ok (.ireturn, 1) := by decide +kernel
theorem dX12_toldOn_39 : decode cX12_toldOn 39 = .ok (.aload_n 0, 1) := by decide +kernel
theorem dX12_toldOn_40 : decode cX12_toldOn 40 = .ok (.getfield 7, 3) := by decide +kernel
theorem dX12_toldOn_43 : decode cX12_toldOn 43 = .ok (.bipush 91, 2) := by decide +kernel
theorem dX12_toldOn_45 : decode cX12_toldOn 45 = .ok (.bipush 6, 2) := by decide +kernel
theorem dX12_toldOn_47 : decode cX12_toldOn 47 = .ok (.iload_n 1, 1) := by decide +kernel
theorem dX12_toldOn_48 : decode cX12_toldOn 48 = .ok (.imul, 1) := by decide +kernel
theorem dX12_toldOn_49 : decode cX12_toldOn 49 = .ok (.iadd, 1) := by decide +kernel
theorem dX12_toldOn_50 : decode cX12_toldOn 50 = .ok (.iload_n 3, 1) := by decide +kernel
theorem dX12_toldOn_51 : decode cX12_toldOn 51 = .ok (.iadd, 1) := by decide +kernel
theorem dX12_toldOn_52 : decode cX12_toldOn 52 = .ok (.iaload, 1) := by decide +kernel
theorem dX12_toldOn_53 : decode cX12_toldOn 53 = .ok (.istore 4, 2) := by decide +kernel
theorem dX12_toldOn_55 : decode cX12_toldOn 55 = .ok (.iconst 1, 1) := by decide +kernel
theorem dX12_toldOn_56 : decode cX12_toldOn 56 = .ok (.istore 5, 2) := by decide +kernel
theorem dX12_toldOn_58 : decode cX12_toldOn 58 = .ok (.iload 5, 2) := by decide +kernel
theorem dX12_toldOn_60 : decode cX12_toldOn 60 = .ok (.iload_n 2, 1) := by decide +kernel
theorem dX12_toldOn_61 : decode cX12_toldOn 61 = .ok (.if_icmp .gt 49, 3) := by decide +kernel
theorem dX12_toldOn_64 : decode cX12_toldOn 64 = .ok (.iload 5, 2) := by decide +kernel
theorem dX12_toldOn_66 : decode cX12_toldOn 66 = .ok (.iconst 2, 1) := by decide +kernel
theorem dX12_toldOn_67 : decode cX12_toldOn 67 = .ok (.irem, 1) := by decide +kernel
theorem dX12_toldOn_68 : decode cX12_toldOn 68 = .ok (.iconst 1, 1) := by decide +kernel
theorem dX12_toldOn_69 : decode cX12_toldOn 69 = .ok (.if_icmp .ne 7, 3) := by decide +kernel
theorem dX12_toldOn_72 : decode cX12_toldOn 72 = .ok (.iconst 1, 1) := by decide +kernel
theorem dX12_toldOn_73 : decode cX12_toldOn 73 = .ok (.goto 5, 3) := by decide +kernel
theorem dX12_toldOn_76 : decode cX12_toldOn 76 = .ok (.bipush 25, 2) := by decide +kernel
theorem dX12_toldOn_78 : decode cX12_toldOn 78 = .ok (.istore 6, 2) := by decide +kernel
theorem dX12_toldOn_80 : decode cX12_toldOn 80 = .ok (.iload 5, 2) := by decide +kernel
theorem dX12_toldOn_82 : decode cX12_toldOn 82 = .ok (.bipush 6, 2) := by decide +kernel
theorem dX12_toldOn_84 : decode cX12_toldOn 84 = .ok (.irem, 1) := by decide +kernel
theorem dX12_toldOn_85 : decode cX12_toldOn 85 = .ok (.iload_n 3, 1) := by decide +kernel
theorem dX12_toldOn_86 : decode cX12_toldOn 86 = .ok (.if_icmp .ne 14, 3) := by decide +kernel
theorem dX12_toldOn_89 : decode cX12_toldOn 89 = .ok (.iload 4, 2) := by decide +kernel
theorem dX12_toldOn_91 : decode cX12_toldOn 91 = .ok (.iload 6, 2) := by decide +kernel
theorem dX12_toldOn_93 : decode cX12_toldOn 93 = .ok (.iadd, 1) := by decide +kernel
theorem dX12_toldOn_94 : decode cX12_toldOn 94 = .ok (.bipush 26, 2) := by decide +kernel
theorem dX12_toldOn_96 : decode cX12_toldOn 96 = .ok (.irem, 1) := by decide +kernel
theorem dX12_toldOn_97 : decode cX12_toldOn 97 = .ok (.goto 5, 3) := by decide +kernel
theorem dX12_toldOn_100 : decode cX12_toldOn 100 = .ok (.iload 4, 2) := by decide +kernel
theorem dX12_toldOn_102 : decode cX12_toldOn 102 = .ok (.istore 4, 2) := by decide +kernel
theorem dX12_toldOn_104 : decode cX12_toldOn 104 = .ok (.iinc 5 1, 3) := by decide +kernel
theorem dX12_toldOn_107 : decode cX12_toldOn 107 = .ok (.goto (-49), 3) := by decide +kernel
theorem dX12_toldOn_110 : decode cX12_toldOn 110 = .ok (.iload 4, 2) := by decide +kernel
theorem dX12_toldOn_112 : decode cX12_toldOn 112 = .ok (.ireturn, 1) := by decide +kernel
theorem dX12_apartOf_0 : decode cX12_apartOf 0 = .ok (.iconst 0, 1) := by decide +kernel
theorem dX12_apartOf_1 : decode cX12_apartOf 1 = .ok (.istore_n 3, 1) := by decide +kernel
theorem dX12_apartOf_2 : decode cX12_apartOf 2 = .ok (.iconst 0, 1) := by decide +kernel
theorem dX12_apartOf_3 : decode cX12_apartOf 3 = .ok (.istore 4, 2) := by decide +kernel
theorem dX12_apartOf_5 : decode cX12_apartOf 5 = .ok (.iload 4, 2) := by decide +kernel
theorem dX12_apartOf_7 : decode cX12_apartOf 7 = .ok (.bipush 6, 2) := by decide +kernel
theorem dX12_apartOf_9 : decode cX12_apartOf 9 = .ok (.if_icmp .ge 50, 3) := by decide +kernel
theorem dX12_apartOf_12 : decode cX12_apartOf 12 = .ok (.iload_n 3, 1) := by decide +kernel
theorem dX12_apartOf_13 : decode cX12_apartOf 13 = .ok (.aload_n 0, 1) := by decide +kernel
theorem dX12_apartOf_14 : decode cX12_apartOf 14 = .ok (.getfield 7, 3) := by decide +kernel
theorem dX12_apartOf_17 : decode cX12_apartOf 17 = .ok (.bipush 91, 2) := by decide +kernel
theorem dX12_apartOf_19 : decode cX12_apartOf 19 = .ok (.bipush 6, 2) := by decide +kernel
theorem dX12_apartOf_21 : decode cX12_apartOf 21 = .ok (.iload_n 1, 1) := by decide +kernel
theorem dX12_apartOf_22 : decode cX12_apartOf 22 = .ok (.imul, 1) := by decide +kernel
theorem dX12_apartOf_23 : decode cX12_apartOf 23 = .ok (.iadd, 1) := by decide +kernel
theorem dX12_apartOf_24 : decode cX12_apartOf 24 = .ok (.iload 4, 2) := by decide +kernel
theorem dX12_apartOf_26 : decode cX12_apartOf 26 = .ok (.iadd, 1) := by decide +kernel
theorem dX12_apartOf_27 : decode cX12_apartOf 27 = .ok (.iaload, 1) := by decide +kernel
theorem dX12_apartOf_28 : decode cX12_apartOf 28 = .ok (.aload_n 0, 1) := by decide +kernel
theorem dX12_apartOf_29 : decode cX12_apartOf 29 = .ok (.getfield 7, 3) := by decide +kernel
theorem dX12_apartOf_32 : decode cX12_apartOf 32 = .ok (.bipush 91, 2) := by decide +kernel
theorem dX12_apartOf_34 : decode cX12_apartOf 34 = .ok (.bipush 6, 2) := by decide +kernel
theorem dX12_apartOf_36 : decode cX12_apartOf 36 = .ok (.iload_n 2, 1) := by decide +kernel
theorem dX12_apartOf_37 : decode cX12_apartOf 37 = .ok (.imul, 1) := by decide +kernel
theorem dX12_apartOf_38 : decode cX12_apartOf 38 = .ok (.iadd, 1) := by decide +kernel
theorem dX12_apartOf_39 : decode cX12_apartOf 39 = .ok (.iload 4, 2) := by decide +kernel
theorem dX12_apartOf_41 : decode cX12_apartOf 41 = .ok (.iadd, 1) := by decide +kernel
theorem dX12_apartOf_42 : decode cX12_apartOf 42 = .ok (.iaload, 1) := by decide +kernel
theorem dX12_apartOf_43 : decode cX12_apartOf 43 = .ok (.if_icmp .ne 7, 3) := by decide +kernel
theorem dX12_apartOf_46 : decode cX12_apartOf 46 = .ok (.iconst 0, 1) := by decide +kernel
theorem dX12_apartOf_47 : decode cX12_apartOf 47 = .ok (.goto 4, 3) := by decide +kernel
theorem dX12_apartOf_50 : decode cX12_apartOf 50 = .ok (.iconst 1, 1) := by decide +kernel
theorem dX12_apartOf_51 : decode cX12_apartOf 51 = .ok (.iadd, 1) := by decide +kernel
theorem dX12_apartOf_52 : decode cX12_apartOf 52 = .ok (.istore_n 3, 1) := by decide +kernel
theorem dX12_apartOf_53 : decode cX12_apartOf 53 = .ok (.iinc 4 1, 3) := by decide +kernel
theorem dX12_apartOf_56 : decode cX12_apartOf 56 = .ok (.goto (-51), 3) := by decide +kernel
theorem dX12_apartOf_59 : decode cX12_apartOf 59 = .ok (.iload_n 3, 1) := by decide +kernel
theorem dX12_apartOf_60 : decode cX12_apartOf 60 = .ok (.ireturn, 1) := by decide +kernel
theorem dX12_apart_0 : decode cX12_apart 0 = .ok (.aload_n 0, 1) := by decide +kernel
theorem dX12_apart_1 : decode cX12_apart 1 = .ok (.iload_n 1, 1) := by decide +kernel
theorem dX12_apart_2 : decode cX12_apart 2 = .ok (.invokevirtual 228, 3) := by decide +kernel
theorem dX12_apart_5 : decode cX12_apart 5 = .ok (.ifCond .eq 20, 3) := by decide +kernel
theorem dX12_apart_8 : decode cX12_apart 8 = .ok (.aload_n 0, 1) := by decide +kernel
theorem dX12_apart_9 : decode cX12_apart 9 = .ok (.iload_n 2, 1) := by decide +kernel
theorem dX12_apart_10 : decode cX12_apart 10 = .ok (.invokevirtual 228, 3) := by decide +kernel
theorem dX12_apart_13 : decode cX12_apart 13 = .ok (.ifCond .eq 12, 3) := by decide +kernel
theorem dX12_apart_16 : decode cX12_apart 16 = .ok (.aload_n 0, 1) := by decide +kernel
theorem dX12_apart_17 : decode cX12_apart 17 = .ok (.iload_n 1, 1) := by decide +kernel
theorem dX12_apart_18 : decode cX12_apart 18 = .ok (.iload_n 2, 1) := by decide +kernel
theorem dX12_apart_19 : decode cX12_apart 19 = .ok (.invokevirtual 233, 3) := by decide +kernel
theorem dX12_apart_22 : decode cX12_apart 22 = .ok (.goto 9, 3) := by decide +kernel
theorem dX12_apart_25 : decode cX12_apart 25 = .ok (.aload_n 0, 1) := by decide +kernel
theorem dX12_apart_26 : decode cX12_apart 26 = .ok (.bipush (-2), 2) := by decide +kernel
theorem dX12_apart_28 : decode cX12_apart 28 = .ok (.invokevirtual 64, 3) := by decide +kernel
theorem dX12_apart_31 : decode cX12_apart 31 = .ok (.ireturn, 1) := by decide +kernel
theorem dX12_bears_0 : decode cX12_bears 0 = .ok (.ldc 236, 2) := by decide +kernel
theorem dX12_bears_2 : decode cX12_bears 2 = .ok (.istore_n 1, 1) := by decide +kernel
theorem dX12_bears_3 : decode cX12_bears 3 = .ok (.iconst 0, 1) := by decide +kernel
theorem dX12_bears_4 : decode cX12_bears 4 = .ok (.istore_n 2, 1) := by decide +kernel
theorem dX12_bears_5 : decode cX12_bears 5 = .ok (.iload_n 2, 1) := by decide +kernel
theorem dX12_bears_6 : decode cX12_bears 6 = .ok (.aload_n 0, 1) := by decide +kernel
theorem dX12_bears_7 : decode cX12_bears 7 = .ok (.getfield 7, 3) := by decide +kernel
theorem dX12_bears_10 : decode cX12_bears 10 = .ok (.bipush 90, 2) := by decide +kernel
theorem dX12_bears_12 : decode cX12_bears 12 = .ok (.iaload, 1) := by decide +kernel
theorem dX12_bears_13 : decode cX12_bears 13 = .ok (.if_icmp .ge 51, 3) := by decide +kernel
theorem dX12_bears_16 : decode cX12_bears 16 = .ok (.iload_n 2, 1) := by decide +kernel
theorem dX12_bears_17 : decode cX12_bears 17 = .ok (.iconst 1, 1) := by decide +kernel
theorem dX12_bears_18 : decode cX12_bears 18 = .ok (.iadd, 1) := by decide +kernel
theorem dX12_bears_19 : decode cX12_bears 19 = .ok (.istore_n 3, 1) := by decide +kernel
theorem dX12_bears_20 : decode cX12_bears 20 = .ok (.iload_n 3, 1) := by decide +kernel
theorem dX12_bears_21 : decode cX12_bears 21 = .ok (.aload_n 0, 1) := by decide +kernel
theorem dX12_bears_22 : decode cX12_bears 22 = .ok (.getfield 7, 3) := by decide +kernel
theorem dX12_bears_25 : decode cX12_bears 25 = .ok (.bipush 90, 2) := by decide +kernel
theorem dX12_bears_27 : decode cX12_bears 27 = .ok (.iaload, 1) := by decide +kernel
theorem dX12_bears_28 : decode cX12_bears 28 = .ok (.if_icmp .ge 30, 3) := by decide +kernel
theorem dX12_bears_31 : decode cX12_bears 31 = .ok (.aload_n 0, 1) := by decide +kernel
theorem dX12_bears_32 : decode cX12_bears 32 = .ok (.iload_n 2, 1) := by decide +kernel
theorem dX12_bears_33 : decode cX12_bears 33 = .ok (.iload_n 3, 1) := by decide +kernel
theorem dX12_bears_34 : decode cX12_bears 34 = .ok (.invokevirtual 233, 3) := by decide +kernel
theorem dX12_bears_37 : decode cX12_bears 37 = .ok (.iload_n 1, 1) := by decide +kernel
theorem dX12_bears_38 : decode cX12_bears 38 = .ok (.if_icmp .ge 12, 3) := by decide +kernel
theorem dX12_bears_41 : decode cX12_bears 41 = .ok (.aload_n 0, 1) := by decide +kernel
theorem dX12_bears_42 : decode cX12_bears 42 = .ok (.iload_n 2, 1) := by decide +kernel
theorem dX12_bears_43 : decode cX12_bears 43 = .ok (.iload_n 3, 1) := by decide +kernel
theorem dX12_bears_44 : decode cX12_bears 44 = .ok (.invokevirtual 233, 3) := by decide +kernel
theorem dX12_bears_47 : decode cX12_bears 47 = .ok (.goto 4, 3) := by decide +kernel
theorem dX12_bears_50 : decode cX12_bears 50 = .ok (.iload_n 1, 1) := by decide +kernel
theorem dX12_bears_51 : decode cX12_bears 51 = .ok (.istore_n 1, 1) := by decide +kernel
theorem dX12_bears_52 : decode cX12_bears 52 = .ok (.iinc 3 1, 3) := by decide +kernel
theorem dX12_bears_55 : decode cX12_bears 55 = .ok (.goto (-35), 3) := by decide +kernel
theorem dX12_bears_58 : decode cX12_bears 58 = .ok (.iinc 2 1, 3) := by decide +kernel
theorem dX12_bears_61 : decode cX12_bears 61 = .ok (.goto (-56), 3) := by decide +kernel
theorem dX12_bears_64 : decode cX12_bears 64 = .ok (.iload_n 1, 1) := by decide +kernel
theorem dX12_bears_65 : decode cX12_bears 65 = .ok (.ldc 236, 2) := by decide +kernel
theorem dX12_bears_67 : decode cX12_bears 67 = .ok (.if_icmp .ne 7, 3) := by decide +kernel
theorem dX12_bears_70 : decode cX12_bears 70 = .ok (.iconst (-1), 1) := by decide +kernel
theorem dX12_bears_71 : decode cX12_bears 71 = .ok (.goto 16, 3) := by decide +kernel
theorem dX12_bears_74 : decode cX12_bears 74 = .ok (.iload_n 1, 1) := by decide +kernel
theorem dX12_bears_75 : decode cX12_bears 75 = .ok (.ifCond .ne 7, 3) := by decide +kernel
theorem dX12_bears_78 : decode cX12_bears 78 = .ok (.iconst 0, 1) := by decide +kernel
theorem dX12_bears_79 : decode cX12_bears 79 = .ok (.goto 8, 3) := by decide +kernel
theorem dX12_bears_82 : decode cX12_bears 82 = .ok (.iload_n 1, 1) := by decide +kernel
theorem dX12_bears_83 : decode cX12_bears 83 = .ok (.iconst 1, 1) := by decide +kernel
theorem dX12_bears_84 : decode cX12_bears 84 = .ok (.isub, 1) := by decide +kernel
theorem dX12_bears_85 : decode cX12_bears 85 = .ok (.iconst 2, 1) := by decide +kernel
theorem dX12_bears_86 : decode cX12_bears 86 = .ok (.idiv, 1) := by decide +kernel
theorem dX12_bears_87 : decode cX12_bears 87 = .ok (.ireturn, 1) := by decide +kernel
theorem dX12_meant_0 : decode cX12_meant 0 = .ok (.aload_n 0, 1) := by decide +kernel
theorem dX12_meant_1 : decode cX12_meant 1 = .ok (.iload_n 1, 1) := by decide +kernel
theorem dX12_meant_2 : decode cX12_meant 2 = .ok (.iload_n 2, 1) := by decide +kernel
theorem dX12_meant_3 : decode cX12_meant 3 = .ok (.iload_n 3, 1) := by decide +kernel
theorem dX12_meant_4 : decode cX12_meant 4 = .ok (.iload 4, 2) := by decide +kernel
theorem dX12_meant_6 : decode cX12_meant 6 = .ok (.iload 5, 2) := by decide +kernel
theorem dX12_meant_8 : decode cX12_meant 8 = .ok (.iload 6, 2) := by decide +kernel
theorem dX12_meant_10 : decode cX12_meant 10 = .ok (.invokevirtual 224, 3) := by decide +kernel
theorem dX12_meant_13 : decode cX12_meant 13 = .ok (.ifCond .ne 10, 3) := by decide +kernel
theorem dX12_meant_16 : decode cX12_meant 16 = .ok (.aload_n 0, 1) := by decide +kernel
theorem dX12_meant_17 : decode cX12_meant 17 = .ok (.bipush (-2), 2) := by decide +kernel
theorem dX12_meant_19 : decode cX12_meant 19 = .ok (.invokevirtual 64, 3) := by decide +kernel
theorem dX12_meant_22 : decode cX12_meant 22 = .ok (.ireturn, 1) := by decide +kernel
theorem dX12_meant_23 : decode cX12_meant 23 = .ok (.iconst (-1), 1) := by decide +kernel
theorem dX12_meant_24 : decode cX12_meant 24 = .ok (.istore 7, 2) := by decide +kernel
theorem dX12_meant_26 : decode cX12_meant 26 = .ok (.ldc 236, 2) := by decide +kernel
theorem dX12_meant_28 : decode cX12_meant 28 = .ok (.istore 8, 2) := by decide +kernel
theorem dX12_meant_30 : decode cX12_meant 30 = .ok (.iconst 0, 1) := by decide +kernel
theorem dX12_meant_31 : decode cX12_meant 31 = .ok (.istore 9, 2) := by decide +kernel
theorem dX12_meant_33 : decode cX12_meant 33 = .ok (.iload 9, 2) := by decide +kernel
theorem dX12_meant_35 : decode cX12_meant 35 = .ok (.aload_n 0, 1) := by decide +kernel
theorem dX12_meant_36 : decode cX12_meant 36 = .ok (.getfield 7, 3) := by decide +kernel
theorem dX12_meant_39 : decode cX12_meant 39 = .ok (.bipush 90, 2) := by decide +kernel
theorem dX12_meant_41 : decode cX12_meant 41 = .ok (.iaload, 1) := by decide +kernel
theorem dX12_meant_42 : decode cX12_meant 42 = .ok (.if_icmp .ge 96, 3) := by decide +kernel
theorem dX12_meant_45 : decode cX12_meant 45 = .ok (.iconst 0, 1) := by decide +kernel
theorem dX12_meant_46 : decode cX12_meant 46 = .ok (.istore 10, 2) := by decide +kernel
theorem dX12_meant_48 : decode cX12_meant 48 = .ok (.iconst 0, 1) := by decide +kernel
theorem dX12_meant_49 : decode cX12_meant 49 = .ok (.istore 11, 2) := by decide +kernel
theorem dX12_meant_51 : decode cX12_meant 51 = .ok (.iload 11, 2) := by decide +kernel
theorem dX12_meant_53 : decode cX12_meant 53 = .ok (.bipush 6, 2) := by decide +kernel
theorem dX12_meant_55 : decode cX12_meant 55 = .ok (.if_icmp .ge 45, 3) := by decide +kernel
theorem dX12_meant_58 : decode cX12_meant 58 = .ok (.iload 10, 2) := by decide +kernel
theorem dX12_meant_60 : decode cX12_meant 60 = .ok (.aload_n 0, 1) := by decide +kernel
theorem dX12_meant_61 : decode cX12_meant 61 = .ok (.getfield 7, 3) := by decide +kernel
theorem dX12_meant_64 : decode cX12_meant 64 = .ok (.bipush 91, 2) := by decide +kernel
theorem dX12_meant_66 : decode cX12_meant 66 = .ok (.bipush 6, 2) := by decide +kernel
theorem dX12_meant_68 : decode cX12_meant 68 = .ok (.iload 9, 2) := by decide +kernel
theorem dX12_meant_70 : decode cX12_meant 70 = .ok (.imul, 1) := by decide +kernel
theorem dX12_meant_71 : decode cX12_meant 71 = .ok (.iadd, 1) := by decide +kernel
theorem dX12_meant_72 : decode cX12_meant 72 = .ok (.iload 11, 2) := by decide +kernel
theorem dX12_meant_74 : decode cX12_meant 74 = .ok (.iadd, 1) := by decide +kernel
theorem dX12_meant_75 : decode cX12_meant 75 = .ok (.iaload, 1) := by decide +kernel
theorem dX12_meant_76 : decode cX12_meant 76 = .ok (.aload_n 0, 1) := by decide +kernel
theorem dX12_meant_77 : decode cX12_meant 77 = .ok (.getfield 36, 3) := by decide +kernel
theorem dX12_meant_80 : decode cX12_meant 80 = .ok (.iload 11, 2) := by decide +kernel
theorem dX12_meant_82 : decode cX12_meant 82 = .ok (.iaload, 1) := by decide +kernel
theorem dX12_meant_83 : decode cX12_meant 83 = .ok (.if_icmp .ne 7, 3) := by decide +kernel
theorem dX12_meant_86 : decode cX12_meant 86 = .ok (.iconst 0, 1) := by decide +kernel
theorem dX12_meant_87 : decode cX12_meant 87 = .ok (.goto 4, 3) := by decide +kernel
theorem dX12_meant_90 : decode cX12_meant 90 = .ok (.iconst 1, 1) := by decide +kernel
theorem dX12_meant_91 : decode cX12_meant 91 = .ok (.iadd, 1) := by decide +kernel
theorem dX12_meant_92 : decode cX12_meant 92 = .ok (.istore 10, 2) := by decide +kernel
theorem dX12_meant_94 : decode cX12_meant 94 = .ok (.iinc 11 1, 3) := by decide +kernel
theorem dX12_meant_97 : decode cX12_meant 97 = .ok (.goto (-46), 3) := by decide +kernel
theorem dX12_meant_100 : decode cX12_meant 100 = .ok (.iload 10, 2) := by decide +kernel
theorem dX12_meant_102 : decode cX12_meant 102 = .ok (.iload 8, 2) := by decide +kernel
theorem dX12_meant_104 : decode cX12_meant 104 = .ok (.if_icmp .ge 8, 3) := by decide +kernel
theorem dX12_meant_107 : decode cX12_meant 107 = .ok (.iload 9, 2) := by decide +kernel
theorem dX12_meant_109 : decode cX12_meant 109 = .ok (.goto 5, 3) := by decide +kernel
theorem dX12_meant_112 : decode cX12_meant 112 = .ok (.iload 7, 2) := by decide +kernel
theorem dX12_meant_114 : decode cX12_meant 114 = .ok (.istore 7, 2) := by decide +kernel
theorem dX12_meant_116 : decode cX12_meant 116 = .ok (.iload 10, 2) := by decide +kernel
theorem dX12_meant_118 : decode cX12_meant 118 = .ok (.iload 8, 2) := by decide +kernel
theorem dX12_meant_120 : decode cX12_meant 120 = .ok (.if_icmp .ge 8, 3) := by decide +kernel
theorem dX12_meant_123 : decode cX12_meant 123 = .ok (.iload 10, 2) := by decide +kernel
theorem dX12_meant_125 : decode cX12_meant 125 = .ok (.goto 5, 3) := by decide +kernel
theorem dX12_meant_128 : decode cX12_meant 128 = .ok (.iload 8, 2) := by decide +kernel
theorem dX12_meant_130 : decode cX12_meant 130 = .ok (.istore 8, 2) := by decide +kernel
theorem dX12_meant_132 : decode cX12_meant 132 = .ok (.iinc 9 1, 3) := by decide +kernel
theorem dX12_meant_135 : decode cX12_meant 135 = .ok (.goto (-102), 3) := by decide +kernel
theorem dX12_meant_138 : decode cX12_meant 138 = .ok (.iload 7, 2) := by decide +kernel
theorem dX12_meant_140 : decode cX12_meant 140 = .ok (.ireturn, 1) := by decide +kernel
theorem dX12_meet_0 : decode cX12_meet 0 = .ok (.iload_n 1, 1) := by decide +kernel
theorem dX12_meet_1 : decode cX12_meet 1 = .ok (.i2l, 1) := by decide +kernel
theorem dX12_meet_2 : decode cX12_meet 2 = .ok (.ldc2_w 60, 3) := by decide +kernel
theorem dX12_meet_5 : decode cX12_meet 5 = .ok (.ldc2_w 62, 3) := by decide +kernel
theorem dX12_meet_8 : decode cX12_meet 8 = .ok (.invokestatic 56, 3) := by decide +kernel
theorem dX12_meet_11 : decode cX12_meet 11 = .ok (.ifCond .eq 16, 3) := by decide +kernel
theorem dX12_meet_14 : decode cX12_meet 14 = .ok (.iload_n 2, 1) := by decide +kernel
theorem dX12_meet_15 : decode cX12_meet 15 = .ok (.i2l, 1) := by decide +kernel
theorem dX12_meet_16 : decode cX12_meet 16 = .ok (.lconst 0, 1) := by decide +kernel
theorem dX12_meet_17 : decode cX12_meet 17 = .ok (.iload_n 1, 1) := by decide +kernel
theorem dX12_meet_18 : decode cX12_meet 18 = .ok (.iconst 1, 1) := by decide +kernel
theorem dX12_meet_19 : decode cX12_meet 19 = .ok (.isub, 1) := by decide +kernel
theorem dX12_meet_20 : decode cX12_meet 20 = .ok (.i2l, 1) := by decide +kernel
theorem dX12_meet_21 : decode cX12_meet 21 = .ok (.invokestatic 56, 3) := by decide +kernel
theorem dX12_meet_24 : decode cX12_meet 24 = .ok (.ifCond .ne 10, 3) := by decide +kernel
theorem dX12_meet_27 : decode cX12_meet 27 = .ok (.aload_n 0, 1) := by decide +kernel
theorem dX12_meet_28 : decode cX12_meet 28 = .ok (.bipush (-2), 2) := by decide +kernel
theorem dX12_meet_30 : decode cX12_meet 30 = .ok (.invokevirtual 64, 3) := by decide +kernel
theorem dX12_meet_33 : decode cX12_meet 33 = .ok (.ireturn, 1) := by decide +kernel
theorem dX12_meet_34 : decode cX12_meet 34 = .ok (.iload_n 2, 1) := by decide +kernel
theorem dX12_meet_35 : decode cX12_meet 35 = .ok (.istore_n 3, 1) := by decide +kernel
theorem dX12_meet_36 : decode cX12_meet 36 = .ok (.iload_n 3, 1) := by decide +kernel
theorem dX12_meet_37 : decode cX12_meet 37 = .ok (.iload_n 1, 1) := by decide +kernel
theorem dX12_meet_38 : decode cX12_meet 38 = .ok (.aload_n 0, 1) := by decide +kernel
theorem dX12_meet_39 : decode cX12_meet 39 = .ok (.getfield 7, 3) := by decide +kernel
theorem dX12_meet_42 : decode cX12_meet 42 = .ok (.iconst 0, 1) := by decide +kernel
theorem dX12_meet_43 : decode cX12_meet 43 = .ok (.iaload, 1) := by decide +kernel
theorem dX12_meet_44 : decode cX12_meet 44 = .ok (.imul, 1) := by decide +kernel
theorem dX12_meet_45 : decode cX12_meet 45 = .ok (.if_icmp .ge 25, 3) := by decide +kernel
theorem dX12_meet_48 : decode cX12_meet 48 = .ok (.aload_n 0, 1) := by decide +kernel
theorem dX12_meet_49 : decode cX12_meet 49 = .ok (.aload_n 0, 1) := by decide +kernel
theorem dX12_meet_50 : decode cX12_meet 50 = .ok (.getfield 7, 3) := by decide +kernel
theorem dX12_meet_53 : decode cX12_meet 53 = .ok (.iconst 1, 1) := by decide +kernel
theorem dX12_meet_54 : decode cX12_meet 54 = .ok (.iaload, 1) := by decide +kernel
theorem dX12_meet_55 : decode cX12_meet 55 = .ok (.iload_n 3, 1) := by decide +kernel
theorem dX12_meet_56 : decode cX12_meet 56 = .ok (.iadd, 1) := by decide +kernel
theorem dX12_meet_57 : decode cX12_meet 57 = .ok (.invokevirtual 93, 3) := by decide +kernel
theorem dX12_meet_60 : decode cX12_meet 60 = .ok (.ifCond .ne 10, 3) := by decide +kernel
theorem dX12_meet_63 : decode cX12_meet 63 = .ok (.iload_n 3, 1) := by decide +kernel
theorem dX12_meet_64 : decode cX12_meet 64 = .ok (.iload_n 1, 1) := by decide +kernel
theorem dX12_meet_65 : decode cX12_meet 65 = .ok (.iadd, 1) := by decide +kernel
theorem dX12_meet_66 : decode cX12_meet 66 = .ok (.istore_n 3, 1) := by decide +kernel
theorem dX12_meet_67 : decode cX12_meet 67 = .ok (.goto (-31), 3) := by decide +kernel
theorem dX12_meet_70 : decode cX12_meet 70 = .ok (.iload_n 3, 1) := by decide +kernel
theorem dX12_meet_71 : decode cX12_meet 71 = .ok (.iload_n 1, 1) := by decide +kernel
theorem dX12_meet_72 : decode cX12_meet 72 = .ok (.aload_n 0, 1) := by decide +kernel
theorem dX12_meet_73 : decode cX12_meet 73 = .ok (.getfield 7, 3) := by decide +kernel
theorem dX12_meet_76 : decode cX12_meet 76 = .ok (.iconst 0, 1) := by decide +kernel
theorem dX12_meet_77 : decode cX12_meet 77 = .ok (.iaload, 1) := by decide +kernel
theorem dX12_meet_78 : decode cX12_meet 78 = .ok (.imul, 1) := by decide +kernel
theorem dX12_meet_79 : decode cX12_meet 79 = .ok (.if_icmp .ge 7, 3) := by decide +kernel
theorem dX12_meet_82 : decode cX12_meet 82 = .ok (.iload_n 3, 1) := by decide +kernel
theorem dX12_meet_83 : decode cX12_meet 83 = .ok (.goto 4, 3) := by decide +kernel
theorem dX12_meet_86 : decode cX12_meet 86 = .ok (.iconst (-1), 1) := by decide +kernel
theorem dX12_meet_87 : decode cX12_meet 87 = .ok (.ireturn, 1) := by decide +kernel
theorem dX12_type_0 : decode cX12_type 0 = .ok (.iload_n 1, 1) := by decide +kernel
theorem dX12_type_1 : decode cX12_type 1 = .ok (.i2l, 1) := by decide +kernel
theorem dX12_type_2 : decode cX12_type 2 = .ok (.lconst 0, 1) := by decide +kernel
theorem dX12_type_3 : decode cX12_type 3 = .ok (.ldc2_w 237, 3) := by decide +kernel
theorem dX12_type_6 : decode cX12_type 6 = .ok (.invokestatic 56, 3) := by decide +kernel
theorem dX12_type_9 : decode cX12_type 9 = .ok (.ifCond .ne 10, 3) := by decide +kernel
theorem dX12_type_12 : decode cX12_type 12 = .ok (.aload_n 0, 1) := by decide +kernel
theorem dX12_type_13 : decode cX12_type 13 = .ok (.bipush (-2), 2) := by decide +kernel
theorem dX12_type_15 : decode cX12_type 15 = .ok (.invokevirtual 64, 3) := by decide +kernel
theorem dX12_type_18 : decode cX12_type 18 = .ok (.ireturn, 1) := by decide +kernel
theorem dX12_type_19 : decode cX12_type 19 = .ok (.aload_n 0, 1) := by decide +kernel
theorem dX12_type_20 : decode cX12_type 20 = .ok (.getfield 239, 3) := by decide +kernel
theorem dX12_type_23 : decode cX12_type 23 = .ok (.sipush 150, 3) := by decide +kernel
theorem dX12_type_26 : decode cX12_type 26 = .ok (.if_icmp .ne 8, 3) := by decide +kernel
theorem dX12_type_29 : decode cX12_type 29 = .ok (.aload_n 0, 1) := by decide +kernel
theorem dX12_type_30 : decode cX12_type 30 = .ok (.invokevirtual 78, 3) := by decide +kernel
theorem dX12_type_33 : decode cX12_type 33 = .ok (.ireturn, 1) := by decide +kernel
theorem dX12_type_34 : decode cX12_type 34 = .ok (.aload_n 0, 1) := by decide +kernel
theorem dX12_type_35 : decode cX12_type 35 = .ok (.getfield 39, 3) := by decide +kernel
theorem dX12_type_38 : decode cX12_type 38 = .ok (.aload_n 0, 1) := by decide +kernel
theorem dX12_type_39 : decode cX12_type 39 = .ok (.getfield 239, 3) := by decide +kernel
theorem dX12_type_42 : decode cX12_type 42 = .ok (.iload_n 1, 1) := by decide +kernel
theorem dX12_type_43 : decode cX12_type 43 = .ok (.iastore, 1) := by decide +kernel
theorem dX12_type_44 : decode cX12_type 44 = .ok (.aload_n 0, 1) := by decide +kernel
theorem dX12_type_45 : decode cX12_type 45 = .ok (.dup, 1) := by decide +kernel
theorem dX12_type_46 : decode cX12_type 46 = .ok (.getfield 239, 3) := by decide +kernel
theorem dX12_type_49 : decode cX12_type 49 = .ok (.iconst 1, 1) := by decide +kernel
theorem dX12_type_50 : decode cX12_type 50 = .ok (.iadd, 1) := by decide +kernel
theorem dX12_type_51 : decode cX12_type 51 = .ok (.putfield 239, 3) := by decide +kernel
theorem dX12_type_54 : decode cX12_type 54 = .ok (.aload_n 0, 1) := by decide +kernel
theorem dX12_type_55 : decode cX12_type 55 = .ok (.getfield 239, 3) := by decide +kernel
theorem dX12_type_58 : decode cX12_type 58 = .ok (.ireturn, 1) := by decide +kernel
theorem dX12_clear_0 : decode cX12_clear 0 = .ok (.aload_n 0, 1) := by decide +kernel
theorem dX12_clear_1 : decode cX12_clear 1 = .ok (.getfield 239, 3) := by decide +kernel
theorem dX12_clear_4 : decode cX12_clear 4 = .ok (.istore_n 1, 1) := by decide +kernel
theorem dX12_clear_5 : decode cX12_clear 5 = .ok (.aload_n 0, 1) := by decide +kernel
theorem dX12_clear_6 : decode cX12_clear 6 = .ok (.iconst 0, 1) := by decide +kernel
theorem dX12_clear_7 : decode cX12_clear 7 = .ok (.putfield 239, 3) := by decide +kernel
theorem dX12_clear_10 : decode cX12_clear 10 = .ok (.iload_n 1, 1) := by decide +kernel
theorem dX12_clear_11 : decode cX12_clear 11 = .ok (.ireturn, 1) := by decide +kernel
theorem dX12_isSmall_0 : decode cX12_isSmall 0 = .ok (.iload_n 0, 1) := by decide +kernel
theorem dX12_isSmall_1 : decode cX12_isSmall 1 = .ok (.i2l, 1) := by decide +kernel
theorem dX12_isSmall_2 : decode cX12_isSmall 2 = .ok (.ldc2_w 243, 3) := by decide +kernel
theorem dX12_isSmall_5 : decode cX12_isSmall 5 = .ok (.ldc2_w 245, 3) := by decide +kernel
theorem dX12_isSmall_8 : decode cX12_isSmall 8 = .ok (.invokestatic 56, 3) := by decide +kernel
theorem dX12_isSmall_11 : decode cX12_isSmall 11 = .ok (.ireturn, 1) := by decide +kernel
theorem dX12_isFigure_0 : decode cX12_isFigure 0 = .ok (.iload_n 0, 1) := by decide +kernel
theorem dX12_isFigure_1 : decode cX12_isFigure 1 = .ok (.i2l, 1) := by decide +kernel
theorem dX12_isFigure_2 : decode cX12_isFigure 2 = .ok (.ldc2_w 247, 3) := by decide +kernel
theorem dX12_isFigure_5 : decode cX12_isFigure 5 = .ok (.ldc2_w 249, 3) := by decide +kernel
theorem dX12_isFigure_8 : decode cX12_isFigure 8 = .ok (.invokestatic 56, 3) := by decide +kernel
theorem dX12_isFigure_11 : decode cX12_isFigure 11 = .ok (.ireturn, 1) := by decide +kernel
theorem dX12_look_0 : decode cX12_look 0 = .ok (.aload_n 0, 1) := by decide +kernel
theorem dX12_look_1 : decode cX12_look 1 = .ok (.iload_n 1, 1) := by decide +kernel
theorem dX12_look_2 : decode cX12_look 2 = .ok (.putfield 251, 3) := by decide +kernel
theorem dX12_look_5 : decode cX12_look 5 = .ok (.aload_n 0, 1) := by decide +kernel
theorem dX12_look_6 : decode cX12_look 6 = .ok (.getfield 251, 3) := by decide +kernel
theorem dX12_look_9 : decode cX12_look 9 = .ok (.aload_n 0, 1) := by decide +kernel
theorem dX12_look_10 : decode cX12_look 10 = .ok (.getfield 239, 3) := by decide +kernel
theorem dX12_look_13 : decode cX12_look 13 = .ok (.if_icmp .ge 30, 3) := by decide +kernel
theorem dX12_look_16 : decode cX12_look 16 = .ok (.aload_n 0, 1) := by decide +kernel
theorem dX12_look_17 : decode cX12_look 17 = .ok (.getfield 39, 3) := by decide +kernel
theorem dX12_look_20 : decode cX12_look 20 = .ok (.aload_n 0, 1) := by decide +kernel
theorem dX12_look_21 : decode cX12_look 21 = .ok (.getfield 251, 3) := by decide +kernel
theorem dX12_look_24 : decode cX12_look 24 = .ok (.iaload, 1) := by decide +kernel
theorem dX12_look_25 : decode cX12_look 25 = .ok (.bipush 32, 2) := by decide +kernel
theorem dX12_look_27 : decode cX12_look 27 = .ok (.if_icmp .ne 16, 3) := by decide +kernel
theorem dX12_look_30 : decode cX12_look 30 = .ok (.aload_n 0, 1) := by decide +kernel
theorem dX12_look_31 : decode cX12_look 31 = .ok (.dup, 1) := by decide +kernel
theorem dX12_look_32 : decode cX12_look 32 = .ok (.getfield 251, 3) := by decide +kernel
theorem dX12_look_35 : decode cX12_look 35 = .ok (.iconst 1, 1) := by decide +kernel
theorem dX12_look_36 : decode cX12_look 36 = .ok (.iadd, 1) := by decide +kernel
theorem dX12_look_37 : decode cX12_look 37 = .ok (.putfield 251, 3) := by decide +kernel
theorem dX12_look_40 : decode cX12_look 40 = .ok (.goto (-35), 3) := by decide +kernel
theorem dX12_look_43 : decode cX12_look 43 = .ok (.aload_n 0, 1) := by decide +kernel
theorem dX12_look_44 : decode cX12_look 44 = .ok (.iconst 0, 1) := by decide +kernel
theorem dX12_look_45 : decode cX12_look 45 = .ok (.putfield 254, 3) := by decide +kernel
theorem dX12_look_48 : decode cX12_look 48 = .ok (.aload_n 0, 1) := by decide +kernel
theorem dX12_look_49 : decode cX12_look 49 = .ok (.iconst 0, 1) := by decide +kernel
theorem dX12_look_50 : decode cX12_look 50 = .ok (.putfield 257, 3) := by decide +kernel
theorem dX12_look_53 : decode cX12_look 53 = .ok (.aload_n 0, 1) := by decide +kernel
theorem dX12_look_54 : decode cX12_look 54 = .ok (.iconst 0, 1) := by decide +kernel
theorem dX12_look_55 : decode cX12_look 55 = .ok (.putfield 260, 3) := by decide +kernel
theorem dX12_look_58 : decode cX12_look 58 = .ok (.aload_n 0, 1) := by decide +kernel
theorem dX12_look_59 : decode cX12_look 59 = .ok (.getfield 251, 3) := by decide +kernel
theorem dX12_look_62 : decode cX12_look 62 = .ok (.aload_n 0, 1) := by decide +kernel
theorem dX12_look_63 : decode cX12_look 63 = .ok (.getfield 239, 3) := by decide +kernel
theorem dX12_look_66 : decode cX12_look 66 = .ok (.if_icmp .ne 4, 3) := by decide +kernel
theorem dX12_look_69 : decode cX12_look 69 = .ok (.return_, 1) := by decide +kernel
theorem dX12_look_70 : decode cX12_look 70 = .ok (.aload_n 0, 1) := by decide +kernel
theorem dX12_look_71 : decode cX12_look 71 = .ok (.getfield 39, 3) := by decide +kernel
theorem dX12_look_74 : decode cX12_look 74 = .ok (.aload_n 0, 1) := by decide +kernel
theorem dX12_look_75 : decode cX12_look 75 = .ok (.getfield 251, 3) := by decide +kernel
theorem dX12_look_78 : decode cX12_look 78 = .ok (.iaload, 1) := by decide +kernel
theorem dX12_look_79 : decode cX12_look 79 = .ok (.istore_n 2, 1) := by decide +kernel
theorem dX12_look_80 : decode cX12_look 80 = .ok (.aload_n 0, 1) := by decide +kernel
theorem dX12_look_81 : decode cX12_look 81 = .ok (.iload_n 2, 1) := by decide +kernel
theorem dX12_look_82 : decode cX12_look 82 = .ok (.invokestatic 263, 3) := by decide +kernel
theorem dX12_look_85 : decode cX12_look 85 = .ok (.ifCond .eq 7, 3) := by decide +kernel
theorem dX12_look_88 : decode cX12_look 88 = .ok (.iconst 1, 1) := by decide +kernel
theorem dX12_look_89 : decode cX12_look 89 = .ok (.goto 25, 3) := by decide +kernel
theorem dX12_look_92 : decode cX12_look 92 = .ok (.iload_n 2, 1) := by decide +kernel
theorem dX12_look_93 : decode cX12_look 93 = .ok (.invokestatic 266, 3) := by decide +kernel
theorem dX12_look_96 : decode cX12_look 96 = .ok (.ifCond .eq 7, 3) := by decide +kernel
theorem dX12_look_99 : decode cX12_look 99 = .ok (.iconst 2, 1) := by decide +kernel
theorem dX12_look_100 : decode cX12_look 100 = .ok (.goto 14, 3) := by decide +kernel
theorem dX12_look_103 : decode cX12_look 103 = .ok (.iload_n 2, 1) := by decide +kernel
theorem dX12_look_104 : decode cX12_look 104 = .ok (.bipush 59, 2) := by decide +kernel
theorem dX12_look_106 : decode cX12_look 106 = .ok (.if_icmp .ne 7, 3) := by decide +kernel
theorem dX12_look_109 : decode cX12_look 109 = .ok (.iconst 3, 1) := by decide +kernel
theorem dX12_look_110 : decode cX12_look 110 = .ok (.goto 4, 3) := by decide +kernel
theorem dX12_look_113 : decode cX12_look 113 = .ok (.iconst 4, 1) := by decide +kernel
theorem dX12_look_114 : decode cX12_look 114 = .ok (.putfield 257, 3) := by decide +kernel
theorem dX12_look_117 : decode cX12_look 117 = .ok (.aload_n 0, 1) := by decide +kernel
theorem dX12_look_118 : decode cX12_look 118 = .ok (.iconst 1, 1) := by decide +kernel
theorem dX12_look_119 : decode cX12_look 119 = .ok (.putfield 254, 3) := by decide +kernel
theorem dX12_look_122 : decode cX12_look 122 = .ok (.aload_n 0, 1) := by decide +kernel
theorem dX12_look_123 : decode cX12_look 123 = .ok (.getfield 257, 3) := by decide +kernel
theorem dX12_look_126 : decode cX12_look 126 = .ok (.iconst 3, 1) := by decide +kernel
theorem dX12_look_127 : decode cX12_look 127 = .ok (.if_icmp .ge 7, 3) := by decide +kernel
theorem dX12_look_130 : decode cX12_look 130 = .ok (.iconst 1, 1) := by decide +kernel
theorem dX12_look_131 : decode cX12_look 131 = .ok (.goto 4, 3) := by decide +kernel
theorem dX12_look_134 : decode cX12_look 134 = .ok (.iconst 0, 1) := by decide +kernel
theorem dX12_look_135 : decode cX12_look 135 = .ok (.istore_n 3, 1) := by decide +kernel
theorem dX12_look_136 : decode cX12_look 136 = .ok (.iload_n 3, 1) := by decide +kernel
theorem dX12_look_137 : decode cX12_look 137 = .ok (.ifCond .eq 78, 3) := by decide +kernel
theorem dX12_look_140 : decode cX12_look 140 = .ok (.aload_n 0, 1) := by decide +kernel
theorem dX12_look_141 : decode cX12_look 141 = .ok (.getfield 251, 3) := by decide +kernel
theorem dX12_look_144 : decode cX12_look 144 = .ok (.aload_n 0, 1) := by decide +kernel
theorem dX12_look_145 : decode cX12_look 145 = .ok (.getfield 254, 3) := by decide +kernel
theorem dX12_look_148 : decode cX12_look 148 = .ok (.iadd, 1) := by decide +kernel
theorem dX12_look_149 : decode cX12_look 149 = .ok (.aload_n 0, 1) := by decide +kernel
theorem dX12_look_150 : decode cX12_look 150 = .ok (.getfield 239, 3) := by decide +kernel
theorem dX12_look_153 : decode cX12_look 153 = .ok (.if_icmp .ge 62, 3) := by decide +kernel
theorem dX12_look_156 : decode cX12_look 156 = .ok (.aload_n 0, 1) := by decide +kernel
theorem dX12_look_157 : decode cX12_look 157 = .ok (.getfield 39, 3) := by decide +kernel
theorem dX12_look_160 : decode cX12_look 160 = .ok (.aload_n 0, 1) := by decide +kernel
theorem dX12_look_161 : decode cX12_look 161 = .ok (.getfield 251, 3) := by decide +kernel
theorem dX12_look_164 : decode cX12_look 164 = .ok (.aload_n 0, 1) := by decide +kernel
theorem dX12_look_165 : decode cX12_look 165 = .ok (.getfield 254, 3) := by decide +kernel
theorem dX12_look_168 : decode cX12_look 168 = .ok (.iadd, 1) := by decide +kernel
theorem dX12_look_169 : decode cX12_look 169 = .ok (.iaload, 1) := by decide +kernel
theorem dX12_look_170 : decode cX12_look 170 = .ok (.istore 4, 2) := by decide +kernel
theorem dX12_look_172 : decode cX12_look 172 = .ok (.aload_n 0, 1) := by decide +kernel
theorem dX12_look_173 : decode cX12_look 173 = .ok (.getfield 257, 3) := by decide +kernel
theorem dX12_look_176 : decode cX12_look 176 = .ok (.iconst 1, 1) := by decide +kernel
theorem dX12_look_177 : decode cX12_look 177 = .ok (.if_icmp .ne 11, 3) := by decide +kernel
theorem dX12_look_180 : decode cX12_look 180 = .ok (.iload 4, 2) := by decide +kernel
theorem dX12_look_182 : decode cX12_look 182 = .ok (.invokestatic 263, 3) := by decide +kernel
theorem dX12_look_185 : decode cX12_look 185 = .ok (.goto 8, 3) := by decide +kernel
theorem dX12_look_188 : decode cX12_look 188 = .ok (.iload 4, 2) := by decide +kernel
theorem dX12_look_190 : decode cX12_look 190 = .ok (.invokestatic 266, 3) := by decide +kernel
theorem dX12_look_193 : decode cX12_look 193 = .ok (.istore_n 3, 1) := by decide +kernel
theorem dX12_look_194 : decode cX12_look 194 = .ok (.aload_n 0, 1) := by decide +kernel
theorem dX12_look_195 : decode cX12_look 195 = .ok (.dup, 1) := by decide +kernel
theorem dX12_look_196 : decode cX12_look 196 = .ok (.getfield 254, 3) := by decide +kernel
theorem dX12_look_199 : decode cX12_look 199 = .ok (.iload_n 3, 1) := by decide +kernel
theorem dX12_look_200 : decode cX12_look 200 = .ok (.ifCond .eq 7, 3) := by decide +kernel
theorem dX12_look_203 : decode cX12_look 203 = .ok (.iconst 1, 1) := by decide +kernel
theorem dX12_look_204 : decode cX12_look 204 = .ok (.goto 4, 3) := by decide +kernel
theorem dX12_look_207 : decode cX12_look 207 = .ok (.iconst 0, 1) := by decide +kernel
theorem dX12_look_208 : decode cX12_look 208 = .ok (.iadd, 1) := by decide +kernel
theorem dX12_look_209 : decode cX12_look 209 = .ok (.putfield 254, 3) := by decide +kernel
theorem dX12_look_212 : decode cX12_look 212 = .ok (.goto (-76), 3) := by decide +kernel
theorem dX12_look_215 : decode cX12_look 215 = .ok (.iconst 0, 1) := by decide +kernel
theorem dX12_look_216 : decode cX12_look 216 = .ok (.istore 4, 2) := by decide +kernel
theorem dX12_look_218 : decode cX12_look 218 = .ok (.iload 4, 2) := by decide +kernel
theorem dX12_look_220 : decode cX12_look 220 = .ok (.aload_n 0, 1) := by decide +kernel
theorem dX12_look_221 : decode cX12_look 221 = .ok (.getfield 254, 3) := by decide +kernel
theorem dX12_look_224 : decode cX12_look 224 = .ok (.if_icmp .ge 50, 3) := by decide +kernel
theorem dX12_look_227 : decode cX12_look 227 = .ok (.iload 4, 2) := by decide +kernel
theorem dX12_look_229 : decode cX12_look 229 = .ok (.iconst 4, 1) := by decide +kernel
theorem dX12_look_230 : decode cX12_look 230 = .ok (.if_icmp .ge 44, 3) := by decide +kernel
theorem dX12_look_233 : decode cX12_look 233 = .ok (.aload_n 0, 1) := by decide +kernel
theorem dX12_look_234 : decode cX12_look 234 = .ok (.getfield 257, 3) := by decide +kernel
theorem dX12_look_237 : decode cX12_look 237 = .ok (.iconst 2, 1) := by decide +kernel
theorem dX12_look_238 : decode cX12_look 238 = .ok (.if_icmp .ne 36, 3) := by decide +kernel
theorem dX12_look_241 : decode cX12_look 241 = .ok (.aload_n 0, 1) := by decide +kernel
theorem dX12_look_242 : decode cX12_look 242 = .ok (.bipush 10, 2) := by decide +kernel
theorem dX12_look_244 : decode cX12_look 244 = .ok (.aload_n 0, 1) := by decide +kernel
theorem dX12_look_245 : decode cX12_look 245 = .ok (.getfield 260, 3) := by decide +kernel
theorem dX12_look_248 : decode cX12_look 248 = .ok (.imul, 1) := by decide +kernel
theorem dX12_look_249 : decode cX12_look 249 = .ok (.aload_n 0, 1) := by decide +kernel
theorem dX12_look_250 : decode cX12_look 250 = .ok (.getfield 39, 3) := by decide +kernel
theorem dX12_look_253 : decode cX12_look 253 = .ok (.aload_n 0, 1) := by decide +kernel
theorem dX12_look_254 : decode cX12_look 254 = .ok (.getfield 251, 3) := by decide +kernel
theorem dX12_look_257 : decode cX12_look 257 = .ok (.iload 4, 2) := by decide +kernel
theorem dX12_look_259 : decode cX12_look 259 = .ok (.iadd, 1) := by decide +kernel
theorem dX12_look_260 : decode cX12_look 260 = .ok (.iaload, 1) := by decide +kernel
theorem dX12_look_261 : decode cX12_look 261 = .ok (.iadd, 1) := by decide +kernel
theorem dX12_look_262 : decode cX12_look 262 = .ok (.bipush 48, 2) := by decide +kernel
theorem dX12_look_264 : decode cX12_look 264 = .ok (.isub, 1) := by decide +kernel
theorem dX12_look_265 : decode cX12_look 265 = .ok (.putfield 260, 3) := by decide +kernel
theorem dX12_look_268 : decode cX12_look 268 = .ok (.iinc 4 1, 3) := by decide +kernel
theorem dX12_look_271 : decode cX12_look 271 = .ok (.goto (-53), 3) := by decide +kernel
theorem dX12_look_274 : decode cX12_look 274 = .ok (.aload_n 0, 1) := by decide +kernel
theorem dX12_look_275 : decode cX12_look 275 = .ok (.aload_n 0, 1) := by decide +kernel
theorem dX12_look_276 : decode cX12_look 276 = .ok (.getfield 257, 3) := by decide +kernel
theorem dX12_look_279 : decode cX12_look 279 = .ok (.iconst 2, 1) := by decide +kernel
theorem dX12_look_280 : decode cX12_look 280 = .ok (.if_icmp .ne 15, 3) := by decide +kernel
theorem dX12_look_283 : decode cX12_look 283 = .ok (.aload_n 0, 1) := by decide +kernel
theorem dX12_look_284 : decode cX12_look 284 = .ok (.getfield 254, 3) := by decide +kernel
theorem dX12_look_287 : decode cX12_look 287 = .ok (.iconst 4, 1) := by decide +kernel
theorem dX12_look_288 : decode cX12_look 288 = .ok (.if_icmp .le 7, 3) := by decide +kernel
theorem dX12_look_291 : decode cX12_look 291 = .ok (.iconst 4, 1) := by decide +kernel
theorem dX12_look_292 : decode cX12_look 292 = .ok (.goto 7, 3) := by decide +kernel
theorem dX12_look_295 : decode cX12_look 295 = .ok (.aload_n 0, 1) := by decide +kernel
theorem dX12_look_296 : decode cX12_look 296 = .ok (.getfield 257, 3) := by decide +kernel
theorem dX12_look_299 : decode cX12_look 299 = .ok (.putfield 257, 3) := by decide +kernel
theorem dX12_look_302 : decode cX12_look 302 = .ok (.return_, 1) := by decide +kernel
theorem dX12_goOn_0 : decode cX12_goOn 0 = .ok (.aload_n 0, 1) := by decide +kernel
theorem dX12_goOn_1 : decode cX12_goOn 1 = .ok (.aload_n 0, 1) := by decide +kernel
theorem dX12_goOn_2 : decode cX12_goOn 2 = .ok (.getfield 251, 3) := by decide +kernel
theorem dX12_goOn_5 : decode cX12_goOn 5 = .ok (.aload_n 0, 1) := by decide +kernel
theorem dX12_goOn_6 : decode cX12_goOn 6 = .ok (.getfield 254, 3) := by decide +kernel
theorem dX12_goOn_9 : decode cX12_goOn 9 = .ok (.iadd, 1) := by decide +kernel
theorem dX12_goOn_10 : decode cX12_goOn 10 = .ok (.invokevirtual 269, 3) := by decide +kernel
theorem dX12_goOn_13 : decode cX12_goOn 13 = .ok (.return_, 1) := by decide +kernel
theorem dX12_isName_0 : decode cX12_isName 0 = .ok (.iload 4, 2) := by decide +kernel
theorem dX12_isName_2 : decode cX12_isName 2 = .ok (.ifCond .ne 7, 3) := by decide +kernel
theorem dX12_isName_5 : decode cX12_isName 5 = .ok (.iconst 3, 1) := by decide +kernel
theorem dX12_isName_6 : decode cX12_isName 6 = .ok (.goto 23, 3) := by decide +kernel
theorem dX12_isName_9 : decode cX12_isName 9 = .ok (.iload 5, 2) := by decide +kernel
theorem dX12_isName_11 : decode cX12_isName 11 = .ok (.ifCond .ne 7, 3) := by decide +kernel
theorem dX12_isName_14 : decode cX12_isName 14 = .ok (.iconst 4, 1) := by decide +kernel
theorem dX12_isName_15 : decode cX12_isName 15 = .ok (.goto 14, 3) := by decide +kernel
theorem dX12_isName_18 : decode cX12_isName 18 = .ok (.iload 6, 2) := by decide +kernel
theorem dX12_isName_20 : decode cX12_isName 20 = .ok (.ifCond .ne 7, 3) := by decide +kernel
theorem dX12_isName_23 : decode cX12_isName 23 = .ok (.iconst 5, 1) := by decide +kernel
theorem dX12_isName_24 : decode cX12_isName 24 = .ok (.goto 5, 3) := by decide +kernel
theorem dX12_isName_27 : decode cX12_isName 27 = .ok (.bipush 6, 2) := by decide +kernel
theorem dX12_isName_29 : decode cX12_isName 29 = .ok (.istore 7, 2) := by decide +kernel
theorem dX12_isName_31 : decode cX12_isName 31 = .ok (.aload_n 0, 1) := by decide +kernel
theorem dX12_isName_32 : decode cX12_isName 32 = .ok (.getfield 257, 3) := by decide +kernel
theorem dX12_isName_35 : decode cX12_isName 35 = .ok (.iconst 1, 1) := by decide +kernel
theorem dX12_isName_36 : decode cX12_isName 36 = .ok (.if_icmp .ne 16, 3) := by decide +kernel
theorem dX12_isName_39 : decode cX12_isName 39 = .ok (.aload_n 0, 1) := by decide +kernel
theorem dX12_isName_40 : decode cX12_isName 40 = .ok (.getfield 254, 3) := by decide +kernel
theorem dX12_isName_43 : decode cX12_isName 43 = .ok (.iload 7, 2) := by decide +kernel
theorem dX12_isName_45 : decode cX12_isName 45 = .ok (.if_icmp .ne 7, 3) := by decide +kernel
theorem dX12_isName_48 : decode cX12_isName 48 = .ok (.iconst 1, 1) := by decide +kernel
theorem dX12_isName_49 : decode cX12_isName 49 = .ok (.goto 4, 3) := by decide +kernel
theorem dX12_isName_52 : decode cX12_isName 52 = .ok (.iconst 0, 1) := by decide +kernel
theorem dX12_isName_53 : decode cX12_isName 53 = .ok (.istore 8, 2) := by decide +kernel
theorem dX12_isName_55 : decode cX12_isName 55 = .ok (.iconst 0, 1) := by decide +kernel
theorem dX12_isName_56 : decode cX12_isName 56 = .ok (.istore 9, 2) := by decide +kernel
theorem dX12_isName_58 : decode cX12_isName 58 = .ok (.iload 9, 2) := by decide +kernel
theorem dX12_isName_60 : decode cX12_isName 60 = .ok (.iload 7, 2) := by decide +kernel
theorem dX12_isName_62 : decode cX12_isName 62 = .ok (.if_icmp .ge 89, 3) := by decide +kernel
theorem dX12_isName_65 : decode cX12_isName 65 = .ok (.iload 8, 2) := by decide +kernel
theorem dX12_isName_67 : decode cX12_isName 67 = .ok (.ifCond .eq 84, 3) := by decide +kernel
theorem dX12_isName_70 : decode cX12_isName 70 = .ok (.aload_n 0, 1) := by decide +kernel
theorem dX12_isName_71 : decode cX12_isName 71 = .ok (.getfield 39, 3) := by decide +kernel
theorem dX12_isName_74 : decode cX12_isName 74 = .ok (.aload_n 0, 1) := by decide +kernel
theorem dX12_isName_75 : decode cX12_isName 75 = .ok (.getfield 251, 3) := by decide +kernel
theorem dX12_isName_78 : decode cX12_isName 78 = .ok (.iload 9, 2) := by decide +kernel
theorem dX12_isName_80 : decode cX12_isName 80 = .ok (.iadd, 1) := by decide +kernel
theorem dX12_isName_81 : decode cX12_isName 81 = .ok (.iaload, 1) := by decide +kernel
theorem dX12_isName_82 : decode cX12_isName 82 = .ok (.iload 9, 2) := by decide +kernel
theorem dX12_isName_84 : decode cX12_isName 84 = .ok (.ifCond .ne 7, 3) := by decide +kernel
theorem dX12_isName_87 : decode cX12_isName 87 = .ok (.iload_n 1, 1) := by decide +kernel
theorem dX12_isName_88 : decode cX12_isName 88 = .ok (.goto 47, 3) := by decide +kernel
theorem dX12_isName_91 : decode cX12_isName 91 = .ok (.iload 9, 2) := by decide +kernel
theorem dX12_isName_93 : decode cX12_isName 93 = .ok (.iconst 1, 1) := by decide +kernel
theorem dX12_isName_94 : decode cX12_isName 94 = .ok (.if_icmp .ne 7, 3) := by decide +kernel
theorem dX12_isName_97 : decode cX12_isName 97 = .ok (.iload_n 2, 1) := by decide +kernel
theorem dX12_isName_98 : decode cX12_isName 98 = .ok (.goto 37, 3) := by decide +kernel
theorem dX12_isName_101 : decode cX12_isName 101 = .ok (.iload 9, 2) := by decide +kernel
theorem dX12_isName_103 : decode cX12_isName 103 = .ok (.iconst 2, 1) := by decide +kernel
theorem dX12_isName_104 : decode cX12_isName 104 = .ok (.if_icmp .ne 7, 3) := by decide +kernel
theorem dX12_isName_107 : decode cX12_isName 107 = .ok (.iload_n 3, 1) := by decide +kernel
theorem dX12_isName_108 : decode cX12_isName 108 = .ok (.goto 27, 3) := by decide +kernel
theorem dX12_isName_111 : decode cX12_isName 111 = .ok (.iload 9, 2) := by decide +kernel
theorem dX12_isName_113 : decode cX12_isName 113 = .ok (.iconst 3, 1) := by decide +kernel
theorem dX12_isName_114 : decode cX12_isName 114 = .ok (.if_icmp .ne 8, 3) := by decide +kernel
theorem dX12_isName_117 : decode cX12_isName 117 = .ok (.iload 4, 2) := by decide +kernel
theorem dX12_isName_119 : decode cX12_isName 119 = .ok (.goto 16, 3) := by decide +kernel
theorem dX12_isName_122 : decode cX12_isName 122 = .ok (.iload 9, 2) := by decide +kernel
theorem dX12_isName_124 : decode cX12_isName 124 = .ok (.iconst 4, 1) := by decide +kernel
theorem dX12_isName_125 : decode cX12_isName 125 = .ok (.if_icmp .ne 8, 3) := by decide +kernel
theorem dX12_isName_128 : decode cX12_isName 128 = .ok (.iload 5, 2) := by decide +kernel
theorem dX12_isName_130 : decode cX12_isName 130 = .ok (.goto 5, 3) := by decide +kernel
theorem dX12_isName_133 : decode cX12_isName 133 = .ok (.iload 6, 2) := by decide +kernel
theorem dX12_isName_135 : decode cX12_isName 135 = .ok (.if_icmp .ne 7, 3) := by decide +kernel
theorem dX12_isName_138 : decode cX12_isName 138 = .ok (.iconst 1, 1) := by decide +kernel
theorem dX12_isName_139 : decode cX12_isName 139 = .ok (.goto 4, 3) := by decide +kernel
theorem dX12_isName_142 : decode cX12_isName 142 = .ok (.iconst 0, 1) := by decide +kernel
theorem dX12_isName_143 : decode cX12_isName 143 = .ok (.istore 8, 2) := by decide +kernel
theorem dX12_isName_145 : decode cX12_isName 145 = .ok (.iinc 9 1, 3) := by decide +kernel
theorem dX12_isName_148 : decode cX12_isName 148 = .ok (.goto (-90), 3) := by decide +kernel
theorem dX12_isName_151 : decode cX12_isName 151 = .ok (.iload 8, 2) := by decide +kernel
theorem dX12_isName_153 : decode cX12_isName 153 = .ok (.ireturn, 1) := by decide +kernel
theorem dX12_takes_0 : decode cX12_takes 0 = .ok (.aload_n 0, 1) := by decide +kernel
theorem dX12_takes_1 : decode cX12_takes 1 = .ok (.getfield 257, 3) := by decide +kernel
theorem dX12_takes_4 : decode cX12_takes 4 = .ok (.iconst 2, 1) := by decide +kernel
theorem dX12_takes_5 : decode cX12_takes 5 = .ok (.if_icmp .ne 18, 3) := by decide +kernel
theorem dX12_takes_8 : decode cX12_takes 8 = .ok (.aload_n 0, 1) := by decide +kernel
theorem dX12_takes_9 : decode cX12_takes 9 = .ok (.getfield 260, 3) := by decide +kernel
theorem dX12_takes_12 : decode cX12_takes 12 = .ok (.i2l, 1) := by decide +kernel
theorem dX12_takes_13 : decode cX12_takes 13 = .ok (.iload_n 2, 1) := by decide +kernel
theorem dX12_takes_14 : decode cX12_takes 14 = .ok (.i2l, 1) := by decide +kernel
theorem dX12_takes_15 : decode cX12_takes 15 = .ok (.iload_n 3, 1) := by decide +kernel
theorem dX12_takes_16 : decode cX12_takes 16 = .ok (.i2l, 1) := by decide +kernel
theorem dX12_takes_17 : decode cX12_takes 17 = .ok (.invokestatic 56, 3) := by decide +kernel
theorem dX12_takes_20 : decode cX12_takes 20 = .ok (.ifCond .ne 5, 3) := by decide +kernel
theorem dX12_takes_23 : decode cX12_takes 23 = .ok (.iconst 0, 1) := by decide +kernel
theorem dX12_takes_24 : decode cX12_takes 24 = .ok (.ireturn, 1) := by decide +kernel
theorem dX12_takes_25 : decode cX12_takes 25 = .ok (.aload_n 0, 1) := by decide +kernel
theorem dX12_takes_26 : decode cX12_takes 26 = .ok (.getfield 45, 3) := by decide +kernel
theorem dX12_takes_29 : decode cX12_takes 29 = .ok (.iload_n 1, 1) := by decide +kernel
theorem dX12_takes_30 : decode cX12_takes 30 = .ok (.aload_n 0, 1) := by decide +kernel
theorem dX12_takes_31 : decode cX12_takes 31 = .ok (.getfield 260, 3) := by decide +kernel
theorem dX12_takes_34 : decode cX12_takes 34 = .ok (.iastore, 1) := by decide +kernel
theorem dX12_takes_35 : decode cX12_takes 35 = .ok (.aload_n 0, 1) := by decide +kernel
theorem dX12_takes_36 : decode cX12_takes 36 = .ok (.invokevirtual 272, 3) := by decide +kernel
theorem dX12_takes_39 : decode cX12_takes 39 = .ok (.iconst 1, 1) := by decide +kernel
theorem dX12_takes_40 : decode cX12_takes 40 = .ok (.ireturn, 1) := by decide +kernel
theorem dX12_readsFirst_0 : decode cX12_readsFirst 0 = .ok (.aload_n 0, 1) := by decide +kernel
theorem dX12_readsFirst_1 : decode cX12_readsFirst 1 = .ok (.bipush 121, 2) := by decide +kernel
theorem dX12_readsFirst_3 : decode cX12_readsFirst 3 = .ok (.bipush 101, 2) := by decide +kernel
theorem dX12_readsFirst_5 : decode cX12_readsFirst 5 = .ok (.bipush 97, 2) := by decide +kernel
theorem dX12_readsFirst_7 : decode cX12_readsFirst 7 = .ok (.bipush 114, 2) := by decide +kernel
theorem dX12_readsFirst_9 : decode cX12_readsFirst 9 = .ok (.iconst 0, 1) := by decide +kernel
theorem dX12_readsFirst_10 : decode cX12_readsFirst 10 = .ok (.iconst 0, 1) := by decide +kernel
theorem dX12_readsFirst_11 : decode cX12_readsFirst 11 = .ok (.invokevirtual 275, 3) := by decide +kernel
theorem dX12_readsFirst_14 : decode cX12_readsFirst 14 = .ok (.ifCond .ne 5, 3) := by decide +kernel
theorem dX12_readsFirst_17 : decode cX12_readsFirst 17 = .ok (.iconst 0, 1) := by decide +kernel
theorem dX12_readsFirst_18 : decode cX12_readsFirst 18 = .ok (.ireturn, 1) := by decide +kernel
theorem dX12_readsFirst_19 : decode cX12_readsFirst 19 = .ok (.aload_n 0, 1) := by decide +kernel
theorem dX12_readsFirst_20 : decode cX12_readsFirst 20 = .ok (.invokevirtual 272, 3) := by decide +kernel
theorem dX12_readsFirst_23 : decode cX12_readsFirst 23 = .ok (.aload_n 0, 1) := by decide +kernel
theorem dX12_readsFirst_24 : decode cX12_readsFirst 24 = .ok (.iconst 0, 1) := by decide +kernel
theorem dX12_readsFirst_25 : decode cX12_readsFirst 25 = .ok (.iconst 2, 1) := by decide +kernel
theorem dX12_readsFirst_26 : decode cX12_readsFirst 26 = .ok (.bipush 70, 2) := by decide +kernel
theorem dX12_readsFirst_28 : decode cX12_readsFirst 28 = .ok (.invokevirtual 278, 3) := by decide +kernel
theorem dX12_readsFirst_31 : decode cX12_readsFirst 31 = .ok (.istore_n 1, 1) := by decide +kernel
theorem dX12_readsFirst_32 : decode cX12_readsFirst 32 = .ok (.aload_n 0, 1) := by decide +kernel
theorem dX12_readsFirst_33 : decode cX12_readsFirst 33 = .ok (.getfield 42, 3) := by decide +kernel
theorem dX12_readsFirst_36 : decode cX12_readsFirst 36 = .ok (.iload_n 1, 1) := by decide +kernel
theorem dX12_readsFirst_37 : decode cX12_readsFirst 37 = .ok (.ifCond .eq 12, 3) := by decide +kernel
theorem dX12_readsFirst_40 : decode cX12_readsFirst 40 = .ok (.aload_n 0, 1) := by decide +kernel
theorem dX12_readsFirst_41 : decode cX12_readsFirst 41 = .ok (.getfield 45, 3) := by decide +kernel
theorem dX12_readsFirst_44 : decode cX12_readsFirst 44 = .ok (.iconst 0, 1) := by decide +kernel
theorem dX12_readsFirst_45 : decode cX12_readsFirst 45 = .ok (.iaload, 1) := by decide +kernel
theorem dX12_readsFirst_46 : decode cX12_readsFirst 46 = .ok (.goto 4, 3) := by decide +kernel
theorem dX12_readsFirst_49 : decode cX12_readsFirst 49 = .ok (.iconst 2, 1) := by decide +kernel
theorem dX12_readsFirst_50 : decode cX12_readsFirst 50 = .ok (.invokestatic 48, 3) := by decide +kernel
theorem dX12_readsFirst_53 : decode cX12_readsFirst 53 = .ok (.iload_n 1, 1) := by decide +kernel
theorem dX12_readsFirst_54 : decode cX12_readsFirst 54 = .ok (.ifCond .eq 15, 3) := by decide +kernel
theorem dX12_readsFirst_57 : decode cX12_readsFirst 57 = .ok (.aload_n 0, 1) := by decide +kernel
theorem dX12_readsFirst_58 : decode cX12_readsFirst 58 = .ok (.getfield 257, 3) := by decide +kernel
theorem dX12_readsFirst_61 : decode cX12_readsFirst 61 = .ok (.iconst 3, 1) := by decide +kernel
theorem dX12_readsFirst_62 : decode cX12_readsFirst 62 = .ok (.if_icmp .ne 7, 3) := by decide +kernel
theorem dX12_readsFirst_65 : decode cX12_readsFirst 65 = .ok (.iconst 1, 1) := by decide +kernel
theorem dX12_readsFirst_66 : decode cX12_readsFirst 66 = .ok (.goto 4, 3) := by decide +kernel
theorem dX12_readsFirst_69 : decode cX12_readsFirst 69 = .ok (.iconst 0, 1) := by decide +kernel
theorem dX12_readsFirst_70 : decode cX12_readsFirst 70 = .ok (.ireturn, 1) := by decide +kernel
theorem dX12_lastFamily_0 : decode cX12_lastFamily 0 = .ok (.aload_n 0, 1) := by decide +kernel
theorem dX12_lastFamily_1 : decode cX12_lastFamily 1 = .ok (.getfield 42, 3) := by decide +kernel
theorem dX12_lastFamily_4 : decode cX12_lastFamily 4 = .ok (.bipush 6, 2) := by decide +kernel
theorem dX12_lastFamily_6 : decode cX12_lastFamily 6 = .ok (.iaload, 1) := by decide +kernel
theorem dX12_lastFamily_7 : decode cX12_lastFamily 7 = .ok (.iconst 1, 1) := by decide +kernel
theorem dX12_lastFamily_8 : decode cX12_lastFamily 8 = .ok (.isub, 1) := by decide +kernel
theorem dX12_lastFamily_9 : decode cX12_lastFamily 9 = .ok (.ireturn, 1) := by decide +kernel
theorem dX12_readsDebt_0 : decode cX12_readsDebt 0 = .ok (.aload_n 0, 1) := by decide +kernel
theorem dX12_readsDebt_1 : decode cX12_readsDebt 1 = .ok (.getfield 42, 3) := by decide +kernel
theorem dX12_readsDebt_4 : decode cX12_readsDebt 4 = .ok (.bipush 33, 2) := by decide +kernel
theorem dX12_readsDebt_6 : decode cX12_readsDebt 6 = .ok (.iaload, 1) := by decide +kernel
theorem dX12_readsDebt_7 : decode cX12_readsDebt 7 = .ok (.bipush 8, 2) := by decide +kernel
theorem dX12_readsDebt_9 : decode cX12_readsDebt 9 = .ok (.if_icmp .ne 5, 3) := by decide +kernel
theorem dX12_readsDebt_12 : decode cX12_readsDebt 12 = .ok (.iconst 0, 1) := by decide +kernel
theorem dX12_readsDebt_13 : decode cX12_readsDebt 13 = .ok (.ireturn, 1) := by decide +kernel
theorem dX12_readsDebt_14 : decode cX12_readsDebt 14 = .ok (.aload_n 0, 1) := by decide +kernel
theorem dX12_readsDebt_15 : decode cX12_readsDebt 15 = .ok (.invokevirtual 272, 3) := by decide +kernel
theorem dX12_readsDebt_18 : decode cX12_readsDebt 18 = .ok (.aload_n 0, 1) := by decide +kernel
theorem dX12_readsDebt_19 : decode cX12_readsDebt 19 = .ok (.iconst 0, 1) := by decide +kernel
theorem dX12_readsDebt_20 : decode cX12_readsDebt 20 = .ok (.iconst 0, 1) := by decide +kernel
theorem dX12_readsDebt_21 : decode cX12_readsDebt 21 = .ok (.aload_n 0, 1) := by decide +kernel
theorem dX12_readsDebt_22 : decode cX12_readsDebt 22 = .ok (.invokevirtual 282, 3) := by decide +kernel
theorem dX12_readsDebt_25 : decode cX12_readsDebt 25 = .ok (.invokevirtual 278, 3) := by decide +kernel
theorem dX12_readsDebt_28 : decode cX12_readsDebt 28 = .ok (.ifCond .eq 49, 3) := by decide +kernel
theorem dX12_readsDebt_31 : decode cX12_readsDebt 31 = .ok (.aload_n 0, 1) := by decide +kernel
theorem dX12_readsDebt_32 : decode cX12_readsDebt 32 = .ok (.getfield 257, 3) := by decide +kernel
theorem dX12_readsDebt_35 : decode cX12_readsDebt 35 = .ok (.iconst 2, 1) := by decide +kernel
theorem dX12_readsDebt_36 : decode cX12_readsDebt 36 = .ok (.if_icmp .ne 16, 3) := by decide +kernel
theorem dX12_readsDebt_39 : decode cX12_readsDebt 39 = .ok (.aload_n 0, 1) := by decide +kernel
theorem dX12_readsDebt_40 : decode cX12_readsDebt 40 = .ok (.getfield 260, 3) := by decide +kernel
theorem dX12_readsDebt_43 : decode cX12_readsDebt 43 = .ok (.aload_n 0, 1) := by decide +kernel
theorem dX12_readsDebt_44 : decode cX12_readsDebt 44 = .ok (.getfield 45, 3) := by decide +kernel
theorem dX12_readsDebt_47 : decode cX12_readsDebt 47 = .ok (.iconst 0, 1) := by decide +kernel
theorem dX12_readsDebt_48 : decode cX12_readsDebt 48 = .ok (.iaload, 1) := by decide +kernel
theorem dX12_readsDebt_49 : decode cX12_readsDebt 49 = .ok (.if_icmp .eq 28, 3) := by decide +kernel
theorem dX12_readsDebt_52 : decode cX12_readsDebt 52 = .ok (.aload_n 0, 1) := by decide +kernel
theorem dX12_readsDebt_53 : decode cX12_readsDebt 53 = .ok (.iconst 1, 1) := by decide +kernel
theorem dX12_readsDebt_54 : decode cX12_readsDebt 54 = .ok (.iconst 0, 1) := by decide +kernel
theorem dX12_readsDebt_55 : decode cX12_readsDebt 55 = .ok (.aload_n 0, 1) := by decide +kernel
theorem dX12_readsDebt_56 : decode cX12_readsDebt 56 = .ok (.invokevirtual 282, 3) := by decide +kernel
theorem dX12_readsDebt_59 : decode cX12_readsDebt 59 = .ok (.invokevirtual 278, 3) := by decide +kernel
theorem dX12_readsDebt_62 : decode cX12_readsDebt 62 = .ok (.ifCond .eq 15, 3) := by decide +kernel
theorem dX12_readsDebt_65 : decode cX12_readsDebt 65 = .ok (.aload_n 0, 1) := by decide +kernel
theorem dX12_readsDebt_66 : decode cX12_readsDebt 66 = .ok (.iconst 2, 1) := by decide +kernel
theorem dX12_readsDebt_67 : decode cX12_readsDebt 67 = .ok (.iconst 1, 1) := by decide +kernel
theorem dX12_readsDebt_68 : decode cX12_readsDebt 68 = .ok (.sipush 999, 3) := by decide +kernel
theorem dX12_readsDebt_71 : decode cX12_readsDebt 71 = .ok (.invokevirtual 278, 3) := by decide +kernel
theorem dX12_readsDebt_74 : decode cX12_readsDebt 74 = .ok (.ifCond .ne 5, 3) := by decide +kernel
theorem dX12_readsDebt_77 : decode cX12_readsDebt 77 = .ok (.iconst 0, 1) := by decide +kernel
theorem dX12_readsDebt_78 : decode cX12_readsDebt 78 = .ok (.ireturn, 1) := by decide +kernel
theorem dX12_readsDebt_79 : decode cX12_readsDebt 79 = .ok (.aload_n 0, 1) := by decide +kernel
theorem dX12_readsDebt_80 : decode cX12_readsDebt 80 = .ok (.getfield 42, 3) := by decide +kernel
theorem dX12_readsDebt_83 : decode cX12_readsDebt 83 = .ok (.aload_n 0, 1) := by decide +kernel
theorem dX12_readsDebt_84 : decode cX12_readsDebt 84 = .ok (.getfield 45, 3) := by decide +kernel
theorem dX12_readsDebt_87 : decode cX12_readsDebt 87 = .ok (.iconst 0, 1) := by decide +kernel
theorem dX12_readsDebt_88 : decode cX12_readsDebt 88 = .ok (.iaload, 1) := by decide +kernel
theorem dX12_readsDebt_89 : decode cX12_readsDebt 89 = .ok (.aload_n 0, 1) := by decide +kernel
theorem dX12_readsDebt_90 : decode cX12_readsDebt 90 = .ok (.getfield 45, 3) := by decide +kernel
theorem dX12_readsDebt_93 : decode cX12_readsDebt 93 = .ok (.iconst 1, 1) := by decide +kernel
theorem dX12_readsDebt_94 : decode cX12_readsDebt 94 = .ok (.iaload, 1) := by decide +kernel
theorem dX12_readsDebt_95 : decode cX12_readsDebt 95 = .ok (.aload_n 0, 1) := by decide +kernel
theorem dX12_readsDebt_96 : decode cX12_readsDebt 96 = .ok (.getfield 45, 3) := by decide +kernel
theorem dX12_readsDebt_99 : decode cX12_readsDebt 99 = .ok (.iconst 2, 1) := by decide +kernel
theorem dX12_readsDebt_100 : decode cX12_readsDebt 100 = .ok (.iaload, 1) := by decide +kernel
theorem dX12_readsDebt_101 : decode cX12_readsDebt 101 = .ok (.invokestatic 191, 3) := by decide +kernel
theorem dX12_readsDebt_104 : decode cX12_readsDebt 104 = .ok (.iconst 1, 1) := by decide +kernel
theorem dX12_readsDebt_105 : decode cX12_readsDebt 105 = .ok (.ireturn, 1) := by decide +kernel
theorem dX12_readsFamily_0 : decode cX12_readsFamily 0 = .ok (.aload_n 0, 1) := by decide +kernel
theorem dX12_readsFamily_1 : decode cX12_readsFamily 1 = .ok (.getfield 42, 3) := by decide +kernel
theorem dX12_readsFamily_4 : decode cX12_readsFamily 4 = .ok (.bipush 6, 2) := by decide +kernel
theorem dX12_readsFamily_6 : decode cX12_readsFamily 6 = .ok (.iaload, 1) := by decide +kernel
theorem dX12_readsFamily_7 : decode cX12_readsFamily 7 = .ok (.bipush 6, 2) := by decide +kernel
theorem dX12_readsFamily_9 : decode cX12_readsFamily 9 = .ok (.if_icmp .ne 5, 3) := by decide +kernel
theorem dX12_readsFamily_12 : decode cX12_readsFamily 12 = .ok (.iconst 0, 1) := by decide +kernel
theorem dX12_readsFamily_13 : decode cX12_readsFamily 13 = .ok (.ireturn, 1) := by decide +kernel
theorem dX12_readsFamily_14 : decode cX12_readsFamily 14 = .ok (.aload_n 0, 1) := by decide +kernel
theorem dX12_readsFamily_15 : decode cX12_readsFamily 15 = .ok (.invokevirtual 272, 3) := by decide +kernel
theorem dX12_readsFamily_18 : decode cX12_readsFamily 18 = .ok (.aload_n 0, 1) := by decide +kernel
theorem dX12_readsFamily_19 : decode cX12_readsFamily 19 = .ok (.iconst 0, 1) := by decide +kernel
theorem dX12_readsFamily_20 : decode cX12_readsFamily 20 = .ok (.iconst 0, 1) := by decide +kernel
theorem dX12_readsFamily_21 : decode cX12_readsFamily 21 = .ok (.iconst 4, 1) := by decide +kernel
theorem dX12_readsFamily_22 : decode cX12_readsFamily 22 = .ok (.invokevirtual 278, 3) := by decide +kernel
theorem dX12_readsFamily_25 : decode cX12_readsFamily 25 = .ok (.ifCond .eq 25, 3) := by decide +kernel
theorem dX12_readsFamily_28 : decode cX12_readsFamily 28 = .ok (.aload_n 0, 1) := by decide +kernel
theorem dX12_readsFamily_29 : decode cX12_readsFamily 29 = .ok (.iconst 1, 1) := by decide +kernel
theorem dX12_readsFamily_30 : decode cX12_readsFamily 30 = .ok (.iconst 1, 1) := by decide +kernel
theorem dX12_readsFamily_31 : decode cX12_readsFamily 31 = .ok (.bipush 20, 2) := by decide +kernel
theorem dX12_readsFamily_33 : decode cX12_readsFamily 33 = .ok (.invokevirtual 278, 3) := by decide +kernel
theorem dX12_readsFamily_36 : decode cX12_readsFamily 36 = .ok (.ifCond .eq 14, 3) := by decide +kernel
theorem dX12_readsFamily_39 : decode cX12_readsFamily 39 = .ok (.aload_n 0, 1) := by decide +kernel
theorem dX12_readsFamily_40 : decode cX12_readsFamily 40 = .ok (.iconst 2, 1) := by decide +kernel
theorem dX12_readsFamily_41 : decode cX12_readsFamily 41 = .ok (.iconst 0, 1) := by decide +kernel
theorem dX12_readsFamily_42 : decode cX12_readsFamily 42 = .ok (.bipush 9, 2) := by decide +kernel
theorem dX12_readsFamily_44 : decode cX12_readsFamily 44 = .ok (.invokevirtual 278, 3) := by decide +kernel
theorem dX12_readsFamily_47 : decode cX12_readsFamily 47 = .ok (.ifCond .ne 5, 3) := by decide +kernel
theorem dX12_readsFamily_50 : decode cX12_readsFamily 50 = .ok (.iconst 0, 1) := by decide +kernel
theorem dX12_readsFamily_51 : decode cX12_readsFamily 51 = .ok (.ireturn, 1) := by decide +kernel
theorem dX12_readsFamily_52 : decode cX12_readsFamily 52 = .ok (.aload_n 0, 1) := by decide +kernel
theorem dX12_readsFamily_53 : decode cX12_readsFamily 53 = .ok (.getfield 42, 3) := by decide +kernel
theorem dX12_readsFamily_56 : decode cX12_readsFamily 56 = .ok (.aload_n 0, 1) := by decide +kernel
theorem dX12_readsFamily_57 : decode cX12_readsFamily 57 = .ok (.getfield 45, 3) := by decide +kernel
theorem dX12_readsFamily_60 : decode cX12_readsFamily 60 = .ok (.iconst 0, 1) := by decide +kernel
theorem dX12_readsFamily_61 : decode cX12_readsFamily 61 = .ok (.iaload, 1) := by decide +kernel
theorem dX12_readsFamily_62 : decode cX12_readsFamily 62 = .ok (.aload_n 0, 1) := by decide +kernel
theorem dX12_readsFamily_63 : decode cX12_readsFamily 63 = .ok (.getfield 45, 3) := by decide +kernel
theorem dX12_readsFamily_66 : decode cX12_readsFamily 66 = .ok (.iconst 1, 1) := by decide +kernel
theorem dX12_readsFamily_67 : decode cX12_readsFamily 67 = .ok (.iaload, 1) := by decide +kernel
theorem dX12_readsFamily_68 : decode cX12_readsFamily 68 = .ok (.aload_n 0, 1) := by decide +kernel
theorem dX12_readsFamily_69 : decode cX12_readsFamily 69 = .ok (.getfield 45, 3) := by decide +kernel
theorem dX12_readsFamily_72 : decode cX12_readsFamily 72 = .ok (.iconst 2, 1) := by decide +kernel
theorem dX12_readsFamily_73 : decode cX12_readsFamily 73 = .ok (.iaload, 1) := by decide +kernel
theorem dX12_readsFamily_74 : decode cX12_readsFamily 74 = .ok (.invokestatic 81, 3) := by decide +kernel
theorem dX12_readsFamily_77 : decode cX12_readsFamily 77 = .ok (.iconst 1, 1) := by decide +kernel
theorem dX12_readsFamily_78 : decode cX12_readsFamily 78 = .ok (.ireturn, 1) := by decide +kernel
theorem dX12_readsItem_0 : decode cX12_readsItem 0 = .ok (.aload_n 0, 1) := by decide +kernel
theorem dX12_readsItem_1 : decode cX12_readsItem 1 = .ok (.bipush 115, 2) := by decide +kernel
theorem dX12_readsItem_3 : decode cX12_readsItem 3 = .ok (.bipush 116, 2) := by decide +kernel
theorem dX12_readsItem_5 : decode cX12_readsItem 5 = .ok (.bipush 111, 2) := by decide +kernel
theorem dX12_readsItem_7 : decode cX12_readsItem 7 = .ok (.bipush 114, 2) := by decide +kernel
theorem dX12_readsItem_9 : decode cX12_readsItem 9 = .ok (.bipush 101, 2) := by decide +kernel
theorem dX12_readsItem_11 : decode cX12_readsItem 11 = .ok (.iconst 0, 1) := by decide +kernel
theorem dX12_readsItem_12 : decode cX12_readsItem 12 = .ok (.invokevirtual 275, 3) := by decide +kernel
theorem dX12_readsItem_15 : decode cX12_readsItem 15 = .ok (.ifCond .eq 72, 3) := by decide +kernel
theorem dX12_readsItem_18 : decode cX12_readsItem 18 = .ok (.aload_n 0, 1) := by decide +kernel
theorem dX12_readsItem_19 : decode cX12_readsItem 19 = .ok (.invokevirtual 272, 3) := by decide +kernel
theorem dX12_readsItem_22 : decode cX12_readsItem 22 = .ok (.aload_n 0, 1) := by decide +kernel
theorem dX12_readsItem_23 : decode cX12_readsItem 23 = .ok (.iconst 0, 1) := by decide +kernel
theorem dX12_readsItem_24 : decode cX12_readsItem 24 = .ok (.iconst 0, 1) := by decide +kernel
theorem dX12_readsItem_25 : decode cX12_readsItem 25 = .ok (.iconst 3, 1) := by decide +kernel
theorem dX12_readsItem_26 : decode cX12_readsItem 26 = .ok (.invokevirtual 278, 3) := by decide +kernel
theorem dX12_readsItem_29 : decode cX12_readsItem 29 = .ok (.ifCond .eq 19, 3) := by decide +kernel
theorem dX12_readsItem_32 : decode cX12_readsItem 32 = .ok (.aload_n 0, 1) := by decide +kernel
theorem dX12_readsItem_33 : decode cX12_readsItem 33 = .ok (.iconst 1, 1) := by decide +kernel
theorem dX12_readsItem_34 : decode cX12_readsItem 34 = .ok (.iconst 0, 1) := by decide +kernel
theorem dX12_readsItem_35 : decode cX12_readsItem 35 = .ok (.sipush 9999, 3) := by decide +kernel
theorem dX12_readsItem_38 : decode cX12_readsItem 38 = .ok (.invokevirtual 278, 3) := by decide +kernel
theorem dX12_readsItem_41 : decode cX12_readsItem 41 = .ok (.ifCond .eq 7, 3) := by decide +kernel
theorem dX12_readsItem_44 : decode cX12_readsItem 44 = .ok (.iconst 1, 1) := by decide +kernel
theorem dX12_readsItem_45 : decode cX12_readsItem 45 = .ok (.goto 4, 3) := by decide +kernel
theorem dX12_readsItem_48 : decode cX12_readsItem 48 = .ok (.iconst 0, 1) := by decide +kernel
theorem dX12_readsItem_49 : decode cX12_readsItem 49 = .ok (.istore_n 1, 1) := by decide +kernel
theorem dX12_readsItem_50 : decode cX12_readsItem 50 = .ok (.aload_n 0, 1) := by decide +kernel
theorem dX12_readsItem_51 : decode cX12_readsItem 51 = .ok (.getfield 42, 3) := by decide +kernel
theorem dX12_readsItem_54 : decode cX12_readsItem 54 = .ok (.iconst 2, 1) := by decide +kernel
theorem dX12_readsItem_55 : decode cX12_readsItem 55 = .ok (.iload_n 1, 1) := by decide +kernel
theorem dX12_readsItem_56 : decode cX12_readsItem 56 = .ok (.ifCond .eq 12, 3) := by decide +kernel
theorem dX12_readsItem_59 : decode cX12_readsItem 59 = .ok (.aload_n 0, 1) := by decide +kernel
theorem dX12_readsItem_60 : decode cX12_readsItem 60 = .ok (.getfield 45, 3) := by decide +kernel
theorem dX12_readsItem_63 : decode cX12_readsItem 63 = .ok (.iconst 0, 1) := by decide +kernel
theorem dX12_readsItem_64 : decode cX12_readsItem 64 = .ok (.iaload, 1) := by decide +kernel
theorem dX12_readsItem_65 : decode cX12_readsItem 65 = .ok (.goto 4, 3) := by decide +kernel
theorem dX12_readsItem_68 : decode cX12_readsItem 68 = .ok (.iconst 0, 1) := by decide +kernel
theorem dX12_readsItem_69 : decode cX12_readsItem 69 = .ok (.iadd, 1) := by decide +kernel
theorem dX12_readsItem_70 : decode cX12_readsItem 70 = .ok (.iload_n 1, 1) := by decide +kernel
theorem dX12_readsItem_71 : decode cX12_readsItem 71 = .ok (.ifCond .eq 12, 3) := by decide +kernel
theorem dX12_readsItem_74 : decode cX12_readsItem 74 = .ok (.aload_n 0, 1) := by decide +kernel
theorem dX12_readsItem_75 : decode cX12_readsItem 75 = .ok (.getfield 45, 3) := by decide +kernel
theorem dX12_readsItem_78 : decode cX12_readsItem 78 = .ok (.iconst 1, 1) := by decide +kernel
theorem dX12_readsItem_79 : decode cX12_readsItem 79 = .ok (.iaload, 1) := by decide +kernel
theorem dX12_readsItem_80 : decode cX12_readsItem 80 = .ok (.goto 4, 3) := by decide +kernel
theorem dX12_readsItem_83 : decode cX12_readsItem 83 = .ok (.iconst 0, 1) := by decide +kernel
theorem dX12_readsItem_84 : decode cX12_readsItem 84 = .ok (.iastore, 1) := by decide +kernel
theorem dX12_readsItem_85 : decode cX12_readsItem 85 = .ok (.iload_n 1, 1) := by decide +kernel
theorem dX12_readsItem_86 : decode cX12_readsItem 86 = .ok (.ireturn, 1) := by decide +kernel
theorem dX12_readsItem_87 : decode cX12_readsItem 87 = .ok (.aload_n 0, 1) := by decide +kernel
theorem dX12_readsItem_88 : decode cX12_readsItem 88 = .ok (.bipush 102, 2) := by decide +kernel
theorem dX12_readsItem_90 : decode cX12_readsItem 90 = .ok (.bipush 97, 2) := by decide +kernel
theorem dX12_readsItem_92 : decode cX12_readsItem 92 = .ok (.bipush 109, 2) := by decide +kernel
theorem dX12_readsItem_94 : decode cX12_readsItem 94 = .ok (.bipush 105, 2) := by decide +kernel
theorem dX12_readsItem_96 : decode cX12_readsItem 96 = .ok (.bipush 108, 2) := by decide +kernel
theorem dX12_readsItem_98 : decode cX12_readsItem 98 = .ok (.bipush 121, 2) := by decide +kernel
theorem dX12_readsItem_100 : decode cX12_readsItem 100 = .ok (.invokevirtual 275, 3) := by decide +kernel
theorem dX12_readsItem_103 : decode cX12_readsItem 103 = .ok (.ifCond .eq 8, 3) := by decide +kernel
theorem dX12_readsItem_106 : decode cX12_readsItem 106 = .ok (.aload_n 0, 1) := by decide +kernel
theorem dX12_readsItem_107 : decode cX12_readsItem 107 = .ok (.invokevirtual 285, 3) := by decide +kernel
theorem dX12_readsItem_110 : decode cX12_readsItem 110 = .ok (.ireturn, 1) := by decide +kernel
theorem dX12_readsItem_111 : decode cX12_readsItem 111 = .ok (.aload_n 0, 1) := by decide +kernel
theorem dX12_readsItem_112 : decode cX12_readsItem 112 = .ok (.bipush 106, 2) := by decide +kernel
theorem dX12_readsItem_114 : decode cX12_readsItem 114 = .ok (.bipush 111, 2) := by decide +kernel
theorem dX12_readsItem_116 : decode cX12_readsItem 116 = .ok (.bipush 98, 2) := by decide +kernel
theorem dX12_readsItem_118 : decode cX12_readsItem 118 = .ok (.iconst 0, 1) := by decide +kernel
theorem dX12_readsItem_119 : decode cX12_readsItem 119 = .ok (.iconst 0, 1) := by decide +kernel
theorem dX12_readsItem_120 : decode cX12_readsItem 120 = .ok (.iconst 0, 1) := by decide +kernel
theorem dX12_readsItem_121 : decode cX12_readsItem 121 = .ok (.invokevirtual 275, 3) := by decide +kernel
theorem dX12_readsItem_124 : decode cX12_readsItem 124 = .ok (.ifCond .eq 66, 3) := by decide +kernel
theorem dX12_readsItem_127 : decode cX12_readsItem 127 = .ok (.aload_n 0, 1) := by decide +kernel
theorem dX12_readsItem_128 : decode cX12_readsItem 128 = .ok (.invokevirtual 272, 3) := by decide +kernel
theorem dX12_readsItem_131 : decode cX12_readsItem 131 = .ok (.aload_n 0, 1) := by decide +kernel
theorem dX12_readsItem_132 : decode cX12_readsItem 132 = .ok (.iconst 0, 1) := by decide +kernel
theorem dX12_readsItem_133 : decode cX12_readsItem 133 = .ok (.iconst 0, 1) := by decide +kernel
theorem dX12_readsItem_134 : decode cX12_readsItem 134 = .ok (.aload_n 0, 1) := by decide +kernel
theorem dX12_readsItem_135 : decode cX12_readsItem 135 = .ok (.invokevirtual 282, 3) := by decide +kernel
theorem dX12_readsItem_138 : decode cX12_readsItem 138 = .ok (.invokevirtual 278, 3) := by decide +kernel
theorem dX12_readsItem_141 : decode cX12_readsItem 141 = .ok (.ifCond .eq 17, 3) := by decide +kernel
theorem dX12_readsItem_144 : decode cX12_readsItem 144 = .ok (.aload_n 0, 1) := by decide +kernel
theorem dX12_readsItem_145 : decode cX12_readsItem 145 = .ok (.iconst 1, 1) := by decide +kernel
theorem dX12_readsItem_146 : decode cX12_readsItem 146 = .ok (.iconst 0, 1) := by decide +kernel
theorem dX12_readsItem_147 : decode cX12_readsItem 147 = .ok (.iconst 4, 1) := by decide +kernel
theorem dX12_readsItem_148 : decode cX12_readsItem 148 = .ok (.invokevirtual 278, 3) := by decide +kernel
theorem dX12_readsItem_151 : decode cX12_readsItem 151 = .ok (.ifCond .eq 7, 3) := by decide +kernel
theorem dX12_readsItem_154 : decode cX12_readsItem 154 = .ok (.iconst 1, 1) := by decide +kernel
theorem dX12_readsItem_155 : decode cX12_readsItem 155 = .ok (.goto 4, 3) := by decide +kernel
theorem dX12_readsItem_158 : decode cX12_readsItem 158 = .ok (.iconst 0, 1) := by decide +kernel
theorem dX12_readsItem_159 : decode cX12_readsItem 159 = .ok (.istore_n 1, 1) := by decide +kernel
theorem dX12_readsItem_160 : decode cX12_readsItem 160 = .ok (.iload_n 1, 1) := by decide +kernel
theorem dX12_readsItem_161 : decode cX12_readsItem 161 = .ok (.ifCond .eq 27, 3) := by decide +kernel
theorem dX12_readsItem_164 : decode cX12_readsItem 164 = .ok (.aload_n 0, 1) := by decide +kernel
theorem dX12_readsItem_165 : decode cX12_readsItem 165 = .ok (.getfield 42, 3) := by decide +kernel
theorem dX12_readsItem_168 : decode cX12_readsItem 168 = .ok (.bipush 7, 2) := by decide +kernel
theorem dX12_readsItem_170 : decode cX12_readsItem 170 = .ok (.iconst 4, 1) := by decide +kernel
theorem dX12_readsItem_171 : decode cX12_readsItem 171 = .ok (.aload_n 0, 1) := by decide +kernel
theorem dX12_readsItem_172 : decode cX12_readsItem 172 = .ok (.getfield 45, 3) := by decide +kernel
theorem dX12_readsItem_175 : decode cX12_readsItem 175 = .ok (.iconst 0, 1) := by decide +kernel
theorem dX12_readsItem_176 : decode cX12_readsItem 176 = .ok (.iaload, 1) := by decide +kernel
theorem dX12_readsItem_177 : decode cX12_readsItem 177 = .ok (.imul, 1) := by decide +kernel
theorem dX12_readsItem_178 : decode cX12_readsItem 178 = .ok (.iadd, 1) := by decide +kernel
theorem dX12_readsItem_179 : decode cX12_readsItem 179 = .ok (.iconst 3, 1) := by decide +kernel
theorem dX12_readsItem_180 : decode cX12_readsItem 180 = .ok (.iadd, 1) := by decide +kernel
theorem dX12_readsItem_181 : decode cX12_readsItem 181 = .ok (.aload_n 0, 1) := by decide +kernel
theorem dX12_readsItem_182 : decode cX12_readsItem 182 = .ok (.getfield 45, 3) := by decide +kernel
theorem dX12_readsItem_185 : decode cX12_readsItem 185 = .ok (.iconst 1, 1) := by decide +kernel
theorem dX12_readsItem_186 : decode cX12_readsItem 186 = .ok (.iaload, 1) := by decide +kernel
theorem dX12_readsItem_187 : decode cX12_readsItem 187 = .ok (.iastore, 1) := by decide +kernel
theorem dX12_readsItem_188 : decode cX12_readsItem 188 = .ok (.iload_n 1, 1) := by decide +kernel
theorem dX12_readsItem_189 : decode cX12_readsItem 189 = .ok (.ireturn, 1) := by decide +kernel
theorem dX12_readsItem_190 : decode cX12_readsItem 190 = .ok (.aload_n 0, 1) := by decide +kernel
theorem dX12_readsItem_191 : decode cX12_readsItem 191 = .ok (.bipush 100, 2) := by decide +kernel
theorem dX12_readsItem_193 : decode cX12_readsItem 193 = .ok (.bipush 101, 2) := by decide +kernel
theorem dX12_readsItem_195 : decode cX12_readsItem 195 = .ok (.bipush 98, 2) := by decide +kernel
theorem dX12_readsItem_197 : decode cX12_readsItem 197 = .ok (.bipush 116, 2) := by decide +kernel
theorem dX12_readsItem_199 : decode cX12_readsItem 199 = .ok (.iconst 0, 1) := by decide +kernel
theorem dX12_readsItem_200 : decode cX12_readsItem 200 = .ok (.iconst 0, 1) := by decide +kernel
theorem dX12_readsItem_201 : decode cX12_readsItem 201 = .ok (.invokevirtual 275, 3) := by decide +kernel
theorem dX12_readsItem_204 : decode cX12_readsItem 204 = .ok (.ifCond .eq 14, 3) := by decide +kernel
theorem dX12_readsItem_207 : decode cX12_readsItem 207 = .ok (.aload_n 0, 1) := by decide +kernel
theorem dX12_readsItem_208 : decode cX12_readsItem 208 = .ok (.invokevirtual 289, 3) := by decide +kernel
theorem dX12_readsItem_211 : decode cX12_readsItem 211 = .ok (.ifCond .eq 7, 3) := by decide +kernel
theorem dX12_readsItem_214 : decode cX12_readsItem 214 = .ok (.iconst 1, 1) := by decide +kernel
theorem dX12_readsItem_215 : decode cX12_readsItem 215 = .ok (.goto 4, 3) := by decide +kernel
theorem dX12_readsItem_218 : decode cX12_readsItem 218 = .ok (.iconst 0, 1) := by decide +kernel
theorem dX12_readsItem_219 : decode cX12_readsItem 219 = .ok (.ireturn, 1) := by decide +kernel
theorem dX12_read_0 : decode cX12_read 0 = .ok (.aload_n 0, 1) := by decide +kernel
theorem dX12_read_1 : decode cX12_read 1 = .ok (.iconst 0, 1) := by decide +kernel
theorem dX12_read_2 : decode cX12_read 2 = .ok (.invokevirtual 269, 3) := by decide +kernel
theorem dX12_read_5 : decode cX12_read 5 = .ok (.aload_n 0, 1) := by decide +kernel
theorem dX12_read_6 : decode cX12_read 6 = .ok (.invokevirtual 292, 3) := by decide +kernel
theorem dX12_read_9 : decode cX12_read 9 = .ok (.ifCond .ne 11, 3) := by decide +kernel
theorem dX12_read_12 : decode cX12_read 12 = .ok (.bipush (-10), 2) := by decide +kernel
theorem dX12_read_14 : decode cX12_read 14 = .ok (.aload_n 0, 1) := by decide +kernel
theorem dX12_read_15 : decode cX12_read 15 = .ok (.getfield 251, 3) := by decide +kernel
theorem dX12_read_18 : decode cX12_read 18 = .ok (.isub, 1) := by decide +kernel
theorem dX12_read_19 : decode cX12_read 19 = .ok (.ireturn, 1) := by decide +kernel
theorem dX12_read_20 : decode cX12_read 20 = .ok (.aload_n 0, 1) := by decide +kernel
theorem dX12_read_21 : decode cX12_read 21 = .ok (.invokevirtual 272, 3) := by decide +kernel
theorem dX12_read_24 : decode cX12_read 24 = .ok (.iconst 1, 1) := by decide +kernel
theorem dX12_read_25 : decode cX12_read 25 = .ok (.istore_n 1, 1) := by decide +kernel
theorem dX12_read_26 : decode cX12_read 26 = .ok (.aload_n 0, 1) := by decide +kernel
theorem dX12_read_27 : decode cX12_read 27 = .ok (.getfield 257, 3) := by decide +kernel
theorem dX12_read_30 : decode cX12_read 30 = .ok (.ifCond .eq 36, 3) := by decide +kernel
theorem dX12_read_33 : decode cX12_read 33 = .ok (.aload_n 0, 1) := by decide +kernel
theorem dX12_read_34 : decode cX12_read 34 = .ok (.invokevirtual 295, 3) := by decide +kernel
theorem dX12_read_37 : decode cX12_read 37 = .ok (.ifCond .eq 11, 3) := by decide +kernel
theorem dX12_read_40 : decode cX12_read 40 = .ok (.aload_n 0, 1) := by decide +kernel
theorem dX12_read_41 : decode cX12_read 41 = .ok (.getfield 257, 3) := by decide +kernel
theorem dX12_read_44 : decode cX12_read 44 = .ok (.iconst 3, 1) := by decide +kernel
theorem dX12_read_45 : decode cX12_read 45 = .ok (.if_icmp .eq 11, 3) := by decide +kernel
theorem dX12_read_48 : decode cX12_read 48 = .ok (.bipush (-10), 2) := by decide +kernel
theorem dX12_read_50 : decode cX12_read 50 = .ok (.aload_n 0, 1) := by decide +kernel
theorem dX12_read_51 : decode cX12_read 51 = .ok (.getfield 251, 3) := by decide +kernel
theorem dX12_read_54 : decode cX12_read 54 = .ok (.isub, 1) := by decide +kernel
theorem dX12_read_55 : decode cX12_read 55 = .ok (.ireturn, 1) := by decide +kernel
theorem dX12_read_56 : decode cX12_read 56 = .ok (.aload_n 0, 1) := by decide +kernel
theorem dX12_read_57 : decode cX12_read 57 = .ok (.invokevirtual 272, 3) := by decide +kernel
theorem dX12_read_60 : decode cX12_read 60 = .ok (.iinc 1 1, 3) := by decide +kernel
theorem dX12_read_63 : decode cX12_read 63 = .ok (.goto (-37), 3) := by decide +kernel
theorem dX12_read_66 : decode cX12_read 66 = .ok (.iconst 0, 1) := by decide +kernel
theorem dX12_read_67 : decode cX12_read 67 = .ok (.istore_n 2, 1) := by decide +kernel
theorem dX12_read_68 : decode cX12_read 68 = .ok (.iload_n 2, 1) := by decide +kernel
theorem dX12_read_69 : decode cX12_read 69 = .ok (.bipush 116, 2) := by decide +kernel
theorem dX12_read_71 : decode cX12_read 71 = .ok (.if_icmp .ge 21, 3) := by decide +kernel
theorem dX12_read_74 : decode cX12_read 74 = .ok (.aload_n 0, 1) := by decide +kernel
theorem dX12_read_75 : decode cX12_read 75 = .ok (.getfield 7, 3) := by decide +kernel
theorem dX12_read_78 : decode cX12_read 78 = .ok (.iload_n 2, 1) := by decide +kernel
theorem dX12_read_79 : decode cX12_read 79 = .ok (.aload_n 0, 1) := by decide +kernel
theorem dX12_read_80 : decode cX12_read 80 = .ok (.getfield 42, 3) := by decide +kernel
theorem dX12_read_83 : decode cX12_read 83 = .ok (.iload_n 2, 1) := by decide +kernel
theorem dX12_read_84 : decode cX12_read 84 = .ok (.iaload, 1) := by decide +kernel
theorem dX12_read_85 : decode cX12_read 85 = .ok (.iastore, 1) := by decide +kernel
theorem dX12_read_86 : decode cX12_read 86 = .ok (.iinc 2 1, 3) := by decide +kernel
theorem dX12_read_89 : decode cX12_read 89 = .ok (.goto (-21), 3) := by decide +kernel
theorem dX12_read_92 : decode cX12_read 92 = .ok (.iload_n 1, 1) := by decide +kernel
theorem dX12_read_93 : decode cX12_read 93 = .ok (.ireturn, 1) := by decide +kernel
theorem dX12_part_0 : decode cX12_part 0 = .ok (.iload_n 1, 1) := by decide +kernel
theorem dX12_part_1 : decode cX12_part 1 = .ok (.ifCond .ne 10, 3) := by decide +kernel
theorem dX12_part_4 : decode cX12_part 4 = .ok (.aload_n 0, 1) := by decide +kernel
theorem dX12_part_5 : decode cX12_part 5 = .ok (.getfield 161, 3) := by decide +kernel
theorem dX12_part_8 : decode cX12_part 8 = .ok (.goto 22, 3) := by decide +kernel
theorem dX12_part_11 : decode cX12_part 11 = .ok (.iload_n 1, 1) := by decide +kernel
theorem dX12_part_12 : decode cX12_part 12 = .ok (.iconst 1, 1) := by decide +kernel
theorem dX12_part_13 : decode cX12_part 13 = .ok (.if_icmp .ne 10, 3) := by decide +kernel
theorem dX12_part_16 : decode cX12_part 16 = .ok (.aload_n 0, 1) := by decide +kernel
theorem dX12_part_17 : decode cX12_part 17 = .ok (.getfield 23, 3) := by decide +kernel
theorem dX12_part_20 : decode cX12_part 20 = .ok (.goto 10, 3) := by decide +kernel
theorem dX12_part_23 : decode cX12_part 23 = .ok (.aload_n 0, 1) := by decide +kernel
theorem dX12_part_24 : decode cX12_part 24 = .ok (.bipush (-2), 2) := by decide +kernel
theorem dX12_part_26 : decode cX12_part 26 = .ok (.invokevirtual 64, 3) := by decide +kernel
theorem dX12_part_29 : decode cX12_part 29 = .ok (.i2l, 1) := by decide +kernel
theorem dX12_part_30 : decode cX12_part 30 = .ok (.lreturn, 1) := by decide +kernel
theorem dX12_image_0 : decode cX12_image 0 = .ok (.iload_n 1, 1) := by decide +kernel
theorem dX12_image_1 : decode cX12_image 1 = .ok (.i2l, 1) := by decide +kernel
theorem dX12_image_2 : decode cX12_image 2 = .ok (.lconst 0, 1) := by decide +kernel
theorem dX12_image_3 : decode cX12_image 3 = .ok (.lconst 1, 1) := by decide +kernel
theorem dX12_image_4 : decode cX12_image 4 = .ok (.invokestatic 56, 3) := by decide +kernel
theorem dX12_image_7 : decode cX12_image 7 = .ok (.ifCond .ne 10, 3) := by decide +kernel
theorem dX12_image_10 : decode cX12_image 10 = .ok (.aload_n 0, 1) := by decide +kernel
theorem dX12_image_11 : decode cX12_image 11 = .ok (.bipush (-2), 2) := by decide +kernel
theorem dX12_image_13 : decode cX12_image 13 = .ok (.invokevirtual 64, 3) := by decide +kernel
theorem dX12_image_16 : decode cX12_image 16 = .ok (.ireturn, 1) := by decide +kernel
theorem dX12_image_17 : decode cX12_image 17 = .ok (.iconst 0, 1) := by decide +kernel
theorem dX12_image_18 : decode cX12_image 18 = .ok (.istore_n 2, 1) := by decide +kernel
theorem dX12_image_19 : decode cX12_image 19 = .ok (.iload_n 2, 1) := by decide +kernel
theorem dX12_image_20 : decode cX12_image 20 = .ok (.sipush 236, 3) := by decide +kernel
theorem dX12_image_23 : decode cX12_image 23 = .ok (.if_icmp .ge 27, 3) := by decide +kernel
theorem dX12_image_26 : decode cX12_image 26 = .ok (.aload_n 0, 1) := by decide +kernel
theorem dX12_image_27 : decode cX12_image 27 = .ok (.getfield 13, 3) := by decide +kernel
theorem dX12_image_30 : decode cX12_image 30 = .ok (.sipush 236, 3) := by decide +kernel
theorem dX12_image_33 : decode cX12_image 33 = .ok (.iload_n 1, 1) := by decide +kernel
theorem dX12_image_34 : decode cX12_image 34 = .ok (.imul, 1) := by decide +kernel
theorem dX12_image_35 : decode cX12_image 35 = .ok (.iload_n 2, 1) := by decide +kernel
theorem dX12_image_36 : decode cX12_image 36 = .ok (.iadd, 1) := by decide +kernel
theorem dX12_image_37 : decode cX12_image 37 = .ok (.aload_n 0, 1) := by decide +kernel
theorem dX12_image_38 : decode cX12_image 38 = .ok (.getfield 7, 3) := by decide +kernel
theorem dX12_image_41 : decode cX12_image 41 = .ok (.iload_n 2, 1) := by decide +kernel
theorem dX12_image_42 : decode cX12_image 42 = .ok (.iaload, 1) := by decide +kernel
theorem dX12_image_43 : decode cX12_image 43 = .ok (.iastore, 1) := by decide +kernel
theorem dX12_image_44 : decode cX12_image 44 = .ok (.iinc 2 1, 3) := by decide +kernel
theorem dX12_image_47 : decode cX12_image 47 = .ok (.goto (-28), 3) := by decide +kernel
theorem dX12_image_50 : decode cX12_image 50 = .ok (.aload_n 0, 1) := by decide +kernel
theorem dX12_image_51 : decode cX12_image 51 = .ok (.getfield 16, 3) := by decide +kernel
theorem dX12_image_54 : decode cX12_image 54 = .ok (.iload_n 1, 1) := by decide +kernel
theorem dX12_image_55 : decode cX12_image 55 = .ok (.iconst 1, 1) := by decide +kernel
theorem dX12_image_56 : decode cX12_image 56 = .ok (.bastore, 1) := by decide +kernel
theorem dX12_image_57 : decode cX12_image 57 = .ok (.iconst 1, 1) := by decide +kernel
theorem dX12_image_58 : decode cX12_image 58 = .ok (.ireturn, 1) := by decide +kernel
theorem dX12_from_0 : decode cX12_from 0 = .ok (.iload_n 1, 1) := by decide +kernel
theorem dX12_from_1 : decode cX12_from 1 = .ok (.i2l, 1) := by decide +kernel
theorem dX12_from_2 : decode cX12_from 2 = .ok (.lconst 0, 1) := by decide +kernel
theorem dX12_from_3 : decode cX12_from 3 = .ok (.lconst 1, 1) := by decide +kernel
theorem dX12_from_4 : decode cX12_from 4 = .ok (.invokestatic 56, 3) := by decide +kernel
theorem dX12_from_7 : decode cX12_from 7 = .ok (.ifCond .ne 10, 3) := by decide +kernel
theorem dX12_from_10 : decode cX12_from 10 = .ok (.aload_n 0, 1) := by decide +kernel
theorem dX12_from_11 : decode cX12_from 11 = .ok (.bipush (-2), 2) := by decide +kernel
theorem dX12_from_13 : decode cX12_from 13 = .ok (.invokevirtual 64, 3) := by decide +kernel
theorem dX12_from_16 : decode cX12_from 16 = .ok (.ireturn, 1) := by decide +kernel
theorem dX12_from_17 : decode cX12_from 17 = .ok (.aload_n 0, 1) := by decide +kernel
theorem dX12_from_18 : decode cX12_from 18 = .ok (.getfield 16, 3) := by decide +kernel
theorem dX12_from_21 : decode cX12_from 21 = .ok (.iload_n 1, 1) := by decide +kernel
theorem dX12_from_22 : decode cX12_from 22 = .ok (.baload, 1) := by decide +kernel
theorem dX12_from_23 : decode cX12_from 23 = .ok (.ifCond .ne 8, 3) := by decide +kernel
theorem dX12_from_26 : decode cX12_from 26 = .ok (.aload_n 0, 1) := by decide +kernel
theorem dX12_from_27 : decode cX12_from 27 = .ok (.invokevirtual 139, 3) := by decide +kernel
theorem dX12_from_30 : decode cX12_from 30 = .ok (.ireturn, 1) := by decide +kernel
theorem dX12_from_31 : decode cX12_from 31 = .ok (.iconst 0, 1) := by decide +kernel
theorem dX12_from_32 : decode cX12_from 32 = .ok (.istore_n 2, 1) := by decide +kernel
theorem dX12_from_33 : decode cX12_from 33 = .ok (.iload_n 2, 1) := by decide +kernel
theorem dX12_from_34 : decode cX12_from 34 = .ok (.sipush 236, 3) := by decide +kernel
theorem dX12_from_37 : decode cX12_from 37 = .ok (.if_icmp .ge 27, 3) := by decide +kernel
theorem dX12_from_40 : decode cX12_from 40 = .ok (.aload_n 0, 1) := by decide +kernel
theorem dX12_from_41 : decode cX12_from 41 = .ok (.getfield 7, 3) := by decide +kernel
theorem dX12_from_44 : decode cX12_from 44 = .ok (.iload_n 2, 1) := by decide +kernel
theorem dX12_from_45 : decode cX12_from 45 = .ok (.aload_n 0, 1) := by decide +kernel
theorem dX12_from_46 : decode cX12_from 46 = .ok (.getfield 13, 3) := by decide +kernel
theorem dX12_from_49 : decode cX12_from 49 = .ok (.sipush 236, 3) := by decide +kernel
theorem dX12_from_52 : decode cX12_from 52 = .ok (.iload_n 1, 1) := by decide +kernel
theorem dX12_from_53 : decode cX12_from 53 = .ok (.imul, 1) := by decide +kernel
theorem dX12_from_54 : decode cX12_from 54 = .ok (.iload_n 2, 1) := by decide +kernel
theorem dX12_from_55 : decode cX12_from 55 = .ok (.iadd, 1) := by decide +kernel
theorem dX12_from_56 : decode cX12_from 56 = .ok (.iaload, 1) := by decide +kernel
theorem dX12_from_57 : decode cX12_from 57 = .ok (.iastore, 1) := by decide +kernel
theorem dX12_from_58 : decode cX12_from 58 = .ok (.iinc 2 1, 3) := by decide +kernel
theorem dX12_from_61 : decode cX12_from 61 = .ok (.goto (-28), 3) := by decide +kernel
theorem dX12_from_64 : decode cX12_from 64 = .ok (.iconst 1, 1) := by decide +kernel
theorem dX12_from_65 : decode cX12_from 65 = .ok (.ireturn, 1) := by decide +kernel
theorem dX12_status_0 : decode cX12_status 0 = .ok (.iload_n 1, 1) := by decide +kernel
theorem dX12_status_1 : decode cX12_status 1 = .ok (.i2l, 1) := by decide +kernel
theorem dX12_status_2 : decode cX12_status 2 = .ok (.lconst 0, 1) := by decide +kernel
theorem dX12_status_3 : decode cX12_status 3 = .ok (.ldc2_w 60, 3) := by decide +kernel
theorem dX12_status_6 : decode cX12_status 6 = .ok (.invokestatic 56, 3) := by decide +kernel
theorem dX12_status_9 : decode cX12_status 9 = .ok (.ifCond .eq 12, 3) := by decide +kernel
theorem dX12_status_12 : decode cX12_status 12 = .ok (.aload_n 0, 1) := by decide +kernel
theorem dX12_status_13 : decode cX12_status 13 = .ok (.getfield 20, 3) := by decide +kernel
theorem dX12_status_16 : decode cX12_status 16 = .ok (.iload_n 1, 1) := by decide +kernel
theorem dX12_status_17 : decode cX12_status 17 = .ok (.iaload, 1) := by decide +kernel
theorem dX12_status_18 : decode cX12_status 18 = .ok (.goto 8, 3) := by decide +kernel
theorem dX12_status_21 : decode cX12_status 21 = .ok (.aload_n 0, 1) := by decide +kernel
theorem dX12_status_22 : decode cX12_status 22 = .ok (.iconst (-1), 1) := by decide +kernel
theorem dX12_status_23 : decode cX12_status 23 = .ok (.invokevirtual 64, 3) := by decide +kernel
theorem dX12_status_26 : decode cX12_status 26 = .ok (.ireturn, 1) := by decide +kernel
theorem dX12_counted_0 : decode cX12_counted 0 = .ok (.iload_n 1, 1) := by decide +kernel
theorem dX12_counted_1 : decode cX12_counted 1 = .ok (.tableswitch 122 0 12 #[67, 67, 67, 67, 67, 67, 67, 74, 82, 90, 98, 106, 114], 67) := by decide +kernel
theorem dX12_counted_68 : decode cX12_counted 68 = .ok (.aload_n 0, 1) := by decide +kernel
theorem dX12_counted_69 : decode cX12_counted 69 = .ok (.getfield 7, 3) := by decide +kernel
theorem dX12_counted_72 : decode cX12_counted 72 = .ok (.iload_n 1, 1) := by decide +kernel
theorem dX12_counted_73 : decode cX12_counted 73 = .ok (.iaload, 1) := by decide +kernel
theorem dX12_counted_74 : decode cX12_counted 74 = .ok (.ireturn, 1) := by decide +kernel
theorem dX12_counted_75 : decode cX12_counted 75 = .ok (.aload_n 0, 1) := by decide +kernel
theorem dX12_counted_76 : decode cX12_counted 76 = .ok (.getfield 7, 3) := by decide +kernel
theorem dX12_counted_79 : decode cX12_counted 79 = .ok (.bipush 33, 2) := by decide +kernel
theorem dX12_counted_81 : decode cX12_counted 81 = .ok (.iaload, 1) := by decide +kernel
theorem dX12_counted_82 : decode cX12_counted 82 = .ok (.ireturn, 1) := by decide +kernel
theorem dX12_counted_83 : decode cX12_counted 83 = .ok (.aload_n 0, 1) := by decide +kernel
theorem dX12_counted_84 : decode cX12_counted 84 = .ok (.getfield 7, 3) := by decide +kernel
theorem dX12_counted_87 : decode cX12_counted 87 = .ok (.bipush 59, 2) := by decide +kernel
theorem dX12_counted_89 : decode cX12_counted 89 = .ok (.iaload, 1) := by decide +kernel
theorem dX12_counted_90 : decode cX12_counted 90 = .ok (.ireturn, 1) := by decide +kernel
theorem dX12_counted_91 : decode cX12_counted 91 = .ok (.aload_n 0, 1) := by decide +kernel
theorem dX12_counted_92 : decode cX12_counted 92 = .ok (.getfield 7, 3) := by decide +kernel
theorem dX12_counted_95 : decode cX12_counted 95 = .ok (.bipush 90, 2) := by decide +kernel
theorem dX12_counted_97 : decode cX12_counted 97 = .ok (.iaload, 1) := by decide +kernel
theorem dX12_counted_98 : decode cX12_counted 98 = .ok (.ireturn, 1) := by decide +kernel
theorem dX12_counted_99 : decode cX12_counted 99 = .ok (.aload_n 0, 1) := by decide +kernel
theorem dX12_counted_100 : decode cX12_counted 100 = .ok (.getfield 7, 3) := by decide +kernel
theorem dX12_counted_103 : decode cX12_counted 103 = .ok (.bipush 31, 2) := by decide +kernel
theorem dX12_counted_105 : decode cX12_counted 105 = .ok (.iaload, 1) := by decide +kernel
theorem dX12_counted_106 : decode cX12_counted 106 = .ok (.ireturn, 1) := by decide +kernel
theorem dX12_counted_107 : decode cX12_counted 107 = .ok (.aload_n 0, 1) := by decide +kernel
theorem dX12_counted_108 : decode cX12_counted 108 = .ok (.getfield 7, 3) := by decide +kernel
theorem dX12_counted_111 : decode cX12_counted 111 = .ok (.bipush 32, 2) := by decide +kernel
theorem dX12_counted_113 : decode cX12_counted 113 = .ok (.iaload, 1) := by decide +kernel
theorem dX12_counted_114 : decode cX12_counted 114 = .ok (.ireturn, 1) := by decide +kernel
theorem dX12_counted_115 : decode cX12_counted 115 = .ok (.aload_n 0, 1) := by decide +kernel
theorem dX12_counted_116 : decode cX12_counted 116 = .ok (.getfield 7, 3) := by decide +kernel
theorem dX12_counted_119 : decode cX12_counted 119 = .ok (.bipush 115, 2) := by decide +kernel
theorem dX12_counted_121 : decode cX12_counted 121 = .ok (.iaload, 1) := by decide +kernel
theorem dX12_counted_122 : decode cX12_counted 122 = .ok (.ireturn, 1) := by decide +kernel
theorem dX12_counted_123 : decode cX12_counted 123 = .ok (.aload_n 0, 1) := by decide +kernel
theorem dX12_counted_124 : decode cX12_counted 124 = .ok (.getfield 239, 3) := by decide +kernel
theorem dX12_counted_127 : decode cX12_counted 127 = .ok (.ireturn, 1) := by decide +kernel
theorem dX12_count_0 : decode cX12_count 0 = .ok (.iload_n 1, 1) := by decide +kernel
theorem dX12_count_1 : decode cX12_count 1 = .ok (.i2l, 1) := by decide +kernel
theorem dX12_count_2 : decode cX12_count 2 = .ok (.lconst 0, 1) := by decide +kernel
theorem dX12_count_3 : decode cX12_count 3 = .ok (.ldc2_w 298, 3) := by decide +kernel
theorem dX12_count_6 : decode cX12_count 6 = .ok (.invokestatic 56, 3) := by decide +kernel
theorem dX12_count_9 : decode cX12_count 9 = .ok (.ifCond .eq 11, 3) := by decide +kernel
theorem dX12_count_12 : decode cX12_count 12 = .ok (.aload_n 0, 1) := by decide +kernel
theorem dX12_count_13 : decode cX12_count 13 = .ok (.iload_n 1, 1) := by decide +kernel
theorem dX12_count_14 : decode cX12_count 14 = .ok (.invokevirtual 300, 3) := by decide +kernel
theorem dX12_count_17 : decode cX12_count 17 = .ok (.goto 9, 3) := by decide +kernel
theorem dX12_count_20 : decode cX12_count 20 = .ok (.aload_n 0, 1) := by decide +kernel
theorem dX12_count_21 : decode cX12_count 21 = .ok (.bipush (-2), 2) := by decide +kernel
theorem dX12_count_23 : decode cX12_count 23 = .ok (.invokevirtual 64, 3) := by decide +kernel
theorem dX12_count_26 : decode cX12_count 26 = .ok (.ireturn, 1) := by decide +kernel
theorem dX12_sums_0 : decode cX12_sums 0 = .ok (.lload_n 1, 1) := by decide +kernel
theorem dX12_sums_1 : decode cX12_sums 1 = .ok (.lstore 5, 2) := by decide +kernel
theorem dX12_sums_3 : decode cX12_sums 3 = .ok (.iconst 0, 1) := by decide +kernel
theorem dX12_sums_4 : decode cX12_sums 4 = .ok (.istore 7, 2) := by decide +kernel
theorem dX12_sums_6 : decode cX12_sums 6 = .ok (.iload 7, 2) := by decide +kernel
theorem dX12_sums_8 : decode cX12_sums 8 = .ok (.iload 4, 2) := by decide +kernel
theorem dX12_sums_10 : decode cX12_sums 10 = .ok (.if_icmp .ge 28, 3) := by decide +kernel
theorem dX12_sums_13 : decode cX12_sums 13 = .ok (.ldc2_w 303, 3) := by decide +kernel
theorem dX12_sums_16 : decode cX12_sums 16 = .ok (.lload 5, 2) := by decide +kernel
theorem dX12_sums_18 : decode cX12_sums 18 = .ok (.lmul, 1) := by decide +kernel
theorem dX12_sums_19 : decode cX12_sums 19 = .ok (.aload_n 0, 1) := by decide +kernel
theorem dX12_sums_20 : decode cX12_sums 20 = .ok (.getfield 7, 3) := by decide +kernel
theorem dX12_sums_23 : decode cX12_sums 23 = .ok (.iload_n 3, 1) := by decide +kernel
theorem dX12_sums_24 : decode cX12_sums 24 = .ok (.iload 7, 2) := by decide +kernel
theorem dX12_sums_26 : decode cX12_sums 26 = .ok (.iadd, 1) := by decide +kernel
theorem dX12_sums_27 : decode cX12_sums 27 = .ok (.iaload, 1) := by decide +kernel
theorem dX12_sums_28 : decode cX12_sums 28 = .ok (.i2l, 1) := by decide +kernel
theorem dX12_sums_29 : decode cX12_sums 29 = .ok (.ladd, 1) := by decide +kernel
theorem dX12_sums_30 : decode cX12_sums 30 = .ok (.lstore 5, 2) := by decide +kernel
theorem dX12_sums_32 : decode cX12_sums 32 = .ok (.iinc 7 1, 3) := by decide +kernel
theorem dX12_sums_35 : decode cX12_sums 35 = .ok (.goto (-29), 3) := by decide +kernel
theorem dX12_sums_38 : decode cX12_sums 38 = .ok (.lload 5, 2) := by decide +kernel
theorem dX12_sums_40 : decode cX12_sums 40 = .ok (.lreturn, 1) := by decide +kernel
theorem dX12_digest_0 : decode cX12_digest 0 = .ok (.ldc2_w 305, 3) := by decide +kernel
theorem dX12_digest_3 : decode cX12_digest 3 = .ok (.lstore_n 1, 1) := by decide +kernel
theorem dX12_digest_4 : decode cX12_digest 4 = .ok (.iconst 0, 1) := by decide +kernel
theorem dX12_digest_5 : decode cX12_digest 5 = .ok (.istore_n 3, 1) := by decide +kernel
