theorem dX12_sumOf_41 : decode cX12_sumOf 41 = .ok (.ireturn, 1) := by decide +kernel
theorem dX12_cleared_0 : decode cX12_cleared 0 = .ok (.iconst 0, 1) := by decide +kernel
theorem dX12_cleared_1 : decode cX12_cleared 1 = .ok (.istore_n 1, 1) := by decide +kernel
theorem dX12_cleared_2 : decode cX12_cleared 2 = .ok (.iconst 0, 1) := by decide +kernel
theorem dX12_cleared_3 : decode cX12_cleared 3 = .ok (.istore_n 2, 1) := by decide +kernel
theorem dX12_cleared_4 : decode cX12_cleared 4 = .ok (.iload_n 2, 1) := by decide +kernel
theorem dX12_cleared_5 : decode cX12_cleared 5 = .ok (.aload_n 0, 1) := by decide +kernel
theorem dX12_cleared_6 : decode cX12_cleared 6 = .ok (.invokevirtual 52, 3) := by decide +kernel
theorem dX12_cleared_9 : decode cX12_cleared 9 = .ok (.if_icmp .ge 39, 3) := by decide +kernel
theorem dX12_cleared_12 : decode cX12_cleared 12 = .ok (.aload_n 0, 1) := by decide +kernel
theorem dX12_cleared_13 : decode cX12_cleared 13 = .ok (.getfield 33, 3) := by decide +kernel
theorem dX12_cleared_16 : decode cX12_cleared 16 = .ok (.iload_n 2, 1) := by decide +kernel
theorem dX12_cleared_17 : decode cX12_cleared 17 = .ok (.aload_n 0, 1) := by decide +kernel
theorem dX12_cleared_18 : decode cX12_cleared 18 = .ok (.iload_n 2, 1) := by decide +kernel
theorem dX12_cleared_19 : decode cX12_cleared 19 = .ok (.invokevirtual 196, 3) := by decide +kernel
theorem dX12_cleared_22 : decode cX12_cleared 22 = .ok (.iastore, 1) := by decide +kernel
theorem dX12_cleared_23 : decode cX12_cleared 23 = .ok (.iload_n 1, 1) := by decide +kernel
theorem dX12_cleared_24 : decode cX12_cleared 24 = .ok (.aload_n 0, 1) := by decide +kernel
theorem dX12_cleared_25 : decode cX12_cleared 25 = .ok (.getfield 33, 3) := by decide +kernel
theorem dX12_cleared_28 : decode cX12_cleared 28 = .ok (.iload_n 2, 1) := by decide +kernel
theorem dX12_cleared_29 : decode cX12_cleared 29 = .ok (.iaload, 1) := by decide +kernel
theorem dX12_cleared_30 : decode cX12_cleared 30 = .ok (.ifCond .eq 9, 3) := by decide +kernel
theorem dX12_cleared_33 : decode cX12_cleared 33 = .ok (.iconst 1, 1) := by decide +kernel
theorem dX12_cleared_34 : decode cX12_cleared 34 = .ok (.iload_n 2, 1) := by decide +kernel
theorem dX12_cleared_35 : decode cX12_cleared 35 = .ok (.ishl, 1) := by decide +kernel
theorem dX12_cleared_36 : decode cX12_cleared 36 = .ok (.goto 4, 3) := by decide +kernel
theorem dX12_cleared_39 : decode cX12_cleared 39 = .ok (.iconst 0, 1) := by decide +kernel
theorem dX12_cleared_40 : decode cX12_cleared 40 = .ok (.ior, 1) := by decide +kernel
theorem dX12_cleared_41 : decode cX12_cleared 41 = .ok (.istore_n 1, 1) := by decide +kernel
theorem dX12_cleared_42 : decode cX12_cleared 42 = .ok (.iinc 2 1, 3) := by decide +kernel
theorem dX12_cleared_45 : decode cX12_cleared 45 = .ok (.goto (-41), 3) := by decide +kernel
theorem dX12_cleared_48 : decode cX12_cleared 48 = .ok (.aload_n 0, 1) := by decide +kernel
theorem dX12_cleared_49 : decode cX12_cleared 49 = .ok (.getfield 30, 3) := by decide +kernel
theorem dX12_cleared_52 : decode cX12_cleared 52 = .ok (.iconst 0, 1) := by decide +kernel
theorem dX12_cleared_53 : decode cX12_cleared 53 = .ok (.iconst 0, 1) := by decide +kernel
theorem dX12_cleared_54 : decode cX12_cleared 54 = .ok (.iastore, 1) := by decide +kernel
theorem dX12_cleared_55 : decode cX12_cleared 55 = .ok (.iconst 1, 1) := by decide +kernel
theorem dX12_cleared_56 : decode cX12_cleared 56 = .ok (.istore_n 2, 1) := by decide +kernel
theorem dX12_cleared_57 : decode cX12_cleared 57 = .ok (.iload_n 2, 1) := by decide +kernel
theorem dX12_cleared_58 : decode cX12_cleared 58 = .ok (.iconst 1, 1) := by decide +kernel
theorem dX12_cleared_59 : decode cX12_cleared 59 = .ok (.aload_n 0, 1) := by decide +kernel
theorem dX12_cleared_60 : decode cX12_cleared 60 = .ok (.invokevirtual 52, 3) := by decide +kernel
theorem dX12_cleared_63 : decode cX12_cleared 63 = .ok (.ishl, 1) := by decide +kernel
theorem dX12_cleared_64 : decode cX12_cleared 64 = .ok (.if_icmp .ge 87, 3) := by decide +kernel
theorem dX12_cleared_67 : decode cX12_cleared 67 = .ok (.aload_n 0, 1) := by decide +kernel
theorem dX12_cleared_68 : decode cX12_cleared 68 = .ok (.getfield 30, 3) := by decide +kernel
theorem dX12_cleared_71 : decode cX12_cleared 71 = .ok (.iload_n 2, 1) := by decide +kernel
theorem dX12_cleared_72 : decode cX12_cleared 72 = .ok (.ldc 200, 2) := by decide +kernel
theorem dX12_cleared_74 : decode cX12_cleared 74 = .ok (.iastore, 1) := by decide +kernel
theorem dX12_cleared_75 : decode cX12_cleared 75 = .ok (.iload_n 2, 1) := by decide +kernel
theorem dX12_cleared_76 : decode cX12_cleared 76 = .ok (.istore_n 3, 1) := by decide +kernel
theorem dX12_cleared_77 : decode cX12_cleared 77 = .ok (.iload_n 3, 1) := by decide +kernel
theorem dX12_cleared_78 : decode cX12_cleared 78 = .ok (.ifCond .le 67, 3) := by decide +kernel
theorem dX12_cleared_81 : decode cX12_cleared 81 = .ok (.aload_n 0, 1) := by decide +kernel
theorem dX12_cleared_82 : decode cX12_cleared 82 = .ok (.iload_n 3, 1) := by decide +kernel
theorem dX12_cleared_83 : decode cX12_cleared 83 = .ok (.invokevirtual 201, 3) := by decide +kernel
theorem dX12_cleared_86 : decode cX12_cleared 86 = .ok (.ifCond .ne 18, 3) := by decide +kernel
theorem dX12_cleared_89 : decode cX12_cleared 89 = .ok (.aload_n 0, 1) := by decide +kernel
theorem dX12_cleared_90 : decode cX12_cleared 90 = .ok (.getfield 30, 3) := by decide +kernel
theorem dX12_cleared_93 : decode cX12_cleared 93 = .ok (.iload_n 2, 1) := by decide +kernel
theorem dX12_cleared_94 : decode cX12_cleared 94 = .ok (.iload_n 3, 1) := by decide +kernel
theorem dX12_cleared_95 : decode cX12_cleared 95 = .ok (.iconst (-1), 1) := by decide +kernel
theorem dX12_cleared_96 : decode cX12_cleared 96 = .ok (.ixor, 1) := by decide +kernel
theorem dX12_cleared_97 : decode cX12_cleared 97 = .ok (.iand, 1) := by decide +kernel
theorem dX12_cleared_98 : decode cX12_cleared 98 = .ok (.iaload, 1) := by decide +kernel
theorem dX12_cleared_99 : decode cX12_cleared 99 = .ok (.iconst 1, 1) := by decide +kernel
theorem dX12_cleared_100 : decode cX12_cleared 100 = .ok (.iadd, 1) := by decide +kernel
theorem dX12_cleared_101 : decode cX12_cleared 101 = .ok (.goto 5, 3) := by decide +kernel
theorem dX12_cleared_104 : decode cX12_cleared 104 = .ok (.ldc 200, 2) := by decide +kernel
theorem dX12_cleared_106 : decode cX12_cleared 106 = .ok (.istore 4, 2) := by decide +kernel
theorem dX12_cleared_108 : decode cX12_cleared 108 = .ok (.aload_n 0, 1) := by decide +kernel
theorem dX12_cleared_109 : decode cX12_cleared 109 = .ok (.getfield 30, 3) := by decide +kernel
theorem dX12_cleared_112 : decode cX12_cleared 112 = .ok (.iload_n 2, 1) := by decide +kernel
theorem dX12_cleared_113 : decode cX12_cleared 113 = .ok (.iload 4, 2) := by decide +kernel
theorem dX12_cleared_115 : decode cX12_cleared 115 = .ok (.aload_n 0, 1) := by decide +kernel
theorem dX12_cleared_116 : decode cX12_cleared 116 = .ok (.getfield 30, 3) := by decide +kernel
theorem dX12_cleared_119 : decode cX12_cleared 119 = .ok (.iload_n 2, 1) := by decide +kernel
theorem dX12_cleared_120 : decode cX12_cleared 120 = .ok (.iaload, 1) := by decide +kernel
theorem dX12_cleared_121 : decode cX12_cleared 121 = .ok (.if_icmp .le 8, 3) := by decide +kernel
theorem dX12_cleared_124 : decode cX12_cleared 124 = .ok (.iload 4, 2) := by decide +kernel
theorem dX12_cleared_126 : decode cX12_cleared 126 = .ok (.goto 9, 3) := by decide +kernel
theorem dX12_cleared_129 : decode cX12_cleared 129 = .ok (.aload_n 0, 1) := by decide +kernel
theorem dX12_cleared_130 : decode cX12_cleared 130 = .ok (.getfield 30, 3) := by decide +kernel
theorem dX12_cleared_133 : decode cX12_cleared 133 = .ok (.iload_n 2, 1) := by decide +kernel
theorem dX12_cleared_134 : decode cX12_cleared 134 = .ok (.iaload, 1) := by decide +kernel
theorem dX12_cleared_135 : decode cX12_cleared 135 = .ok (.iastore, 1) := by decide +kernel
theorem dX12_cleared_136 : decode cX12_cleared 136 = .ok (.iload_n 3, 1) := by decide +kernel
theorem dX12_cleared_137 : decode cX12_cleared 137 = .ok (.iconst 1, 1) := by decide +kernel
theorem dX12_cleared_138 : decode cX12_cleared 138 = .ok (.isub, 1) := by decide +kernel
theorem dX12_cleared_139 : decode cX12_cleared 139 = .ok (.iload_n 2, 1) := by decide +kernel
theorem dX12_cleared_140 : decode cX12_cleared 140 = .ok (.iand, 1) := by decide +kernel
theorem dX12_cleared_141 : decode cX12_cleared 141 = .ok (.istore_n 3, 1) := by decide +kernel
theorem dX12_cleared_142 : decode cX12_cleared 142 = .ok (.goto (-65), 3) := by decide +kernel
theorem dX12_cleared_145 : decode cX12_cleared 145 = .ok (.iinc 2 1, 3) := by decide +kernel
theorem dX12_cleared_148 : decode cX12_cleared 148 = .ok (.goto (-91), 3) := by decide +kernel
theorem dX12_cleared_151 : decode cX12_cleared 151 = .ok (.iload_n 1, 1) := by decide +kernel
theorem dX12_cleared_152 : decode cX12_cleared 152 = .ok (.invokestatic 175, 3) := by decide +kernel
theorem dX12_cleared_155 : decode cX12_cleared 155 = .ok (.aload_n 0, 1) := by decide +kernel
theorem dX12_cleared_156 : decode cX12_cleared 156 = .ok (.getfield 30, 3) := by decide +kernel
theorem dX12_cleared_159 : decode cX12_cleared 159 = .ok (.iload_n 1, 1) := by decide +kernel
theorem dX12_cleared_160 : decode cX12_cleared 160 = .ok (.iaload, 1) := by decide +kernel
theorem dX12_cleared_161 : decode cX12_cleared 161 = .ok (.isub, 1) := by decide +kernel
theorem dX12_cleared_162 : decode cX12_cleared 162 = .ok (.ireturn, 1) := by decide +kernel
theorem dX12_report_0 : decode cX12_report 0 = .ok (.iload_n 1, 1) := by decide +kernel
theorem dX12_report_1 : decode cX12_report 1 = .ok (.i2l, 1) := by decide +kernel
theorem dX12_report_2 : decode cX12_report 2 = .ok (.lconst 0, 1) := by decide +kernel
theorem dX12_report_3 : decode cX12_report 3 = .ok (.ldc2_w 204, 3) := by decide +kernel
theorem dX12_report_6 : decode cX12_report 6 = .ok (.invokestatic 56, 3) := by decide +kernel
theorem dX12_report_9 : decode cX12_report 9 = .ok (.ifCond .eq 23, 3) := by decide +kernel
theorem dX12_report_12 : decode cX12_report 12 = .ok (.aload_n 0, 1) := by decide +kernel
theorem dX12_report_13 : decode cX12_report 13 = .ok (.iload_n 2, 1) := by decide +kernel
theorem dX12_report_14 : decode cX12_report 14 = .ok (.invokevirtual 85, 3) := by decide +kernel
theorem dX12_report_17 : decode cX12_report 17 = .ok (.ifCond .eq 15, 3) := by decide +kernel
theorem dX12_report_20 : decode cX12_report 20 = .ok (.iload_n 3, 1) := by decide +kernel
theorem dX12_report_21 : decode cX12_report 21 = .ok (.i2l, 1) := by decide +kernel
theorem dX12_report_22 : decode cX12_report 22 = .ok (.lconst 0, 1) := by decide +kernel
theorem dX12_report_23 : decode cX12_report 23 = .ok (.ldc2_w 70, 3) := by decide +kernel
theorem dX12_report_26 : decode cX12_report 26 = .ok (.invokestatic 56, 3) := by decide +kernel
theorem dX12_report_29 : decode cX12_report 29 = .ok (.ifCond .ne 10, 3) := by decide +kernel
theorem dX12_report_32 : decode cX12_report 32 = .ok (.aload_n 0, 1) := by decide +kernel
theorem dX12_report_33 : decode cX12_report 33 = .ok (.bipush (-2), 2) := by decide +kernel
theorem dX12_report_35 : decode cX12_report 35 = .ok (.invokevirtual 64, 3) := by decide +kernel
theorem dX12_report_38 : decode cX12_report 38 = .ok (.ireturn, 1) := by decide +kernel
theorem dX12_report_39 : decode cX12_report 39 = .ok (.aload_n 0, 1) := by decide +kernel
theorem dX12_report_40 : decode cX12_report 40 = .ok (.getfield 7, 3) := by decide +kernel
theorem dX12_report_43 : decode cX12_report 43 = .ok (.bipush 59, 2) := by decide +kernel
theorem dX12_report_45 : decode cX12_report 45 = .ok (.iaload, 1) := by decide +kernel
theorem dX12_report_46 : decode cX12_report 46 = .ok (.bipush 10, 2) := by decide +kernel
theorem dX12_report_48 : decode cX12_report 48 = .ok (.if_icmp .ne 8, 3) := by decide +kernel
theorem dX12_report_51 : decode cX12_report 51 = .ok (.aload_n 0, 1) := by decide +kernel
theorem dX12_report_52 : decode cX12_report 52 = .ok (.invokevirtual 78, 3) := by decide +kernel
theorem dX12_report_55 : decode cX12_report 55 = .ok (.ireturn, 1) := by decide +kernel
theorem dX12_report_56 : decode cX12_report 56 = .ok (.bipush 60, 2) := by decide +kernel
theorem dX12_report_58 : decode cX12_report 58 = .ok (.iconst 3, 1) := by decide +kernel
theorem dX12_report_59 : decode cX12_report 59 = .ok (.aload_n 0, 1) := by decide +kernel
theorem dX12_report_60 : decode cX12_report 60 = .ok (.getfield 7, 3) := by decide +kernel
theorem dX12_report_63 : decode cX12_report 63 = .ok (.bipush 59, 2) := by decide +kernel
theorem dX12_report_65 : decode cX12_report 65 = .ok (.iaload, 1) := by decide +kernel
theorem dX12_report_66 : decode cX12_report 66 = .ok (.imul, 1) := by decide +kernel
theorem dX12_report_67 : decode cX12_report 67 = .ok (.iadd, 1) := by decide +kernel
theorem dX12_report_68 : decode cX12_report 68 = .ok (.istore 4, 2) := by decide +kernel
theorem dX12_report_70 : decode cX12_report 70 = .ok (.aload_n 0, 1) := by decide +kernel
theorem dX12_report_71 : decode cX12_report 71 = .ok (.getfield 7, 3) := by decide +kernel
theorem dX12_report_74 : decode cX12_report 74 = .ok (.iload 4, 2) := by decide +kernel
theorem dX12_report_76 : decode cX12_report 76 = .ok (.iload_n 1, 1) := by decide +kernel
theorem dX12_report_77 : decode cX12_report 77 = .ok (.iastore, 1) := by decide +kernel
theorem dX12_report_78 : decode cX12_report 78 = .ok (.aload_n 0, 1) := by decide +kernel
theorem dX12_report_79 : decode cX12_report 79 = .ok (.getfield 7, 3) := by decide +kernel
theorem dX12_report_82 : decode cX12_report 82 = .ok (.iload 4, 2) := by decide +kernel
theorem dX12_report_84 : decode cX12_report 84 = .ok (.iconst 1, 1) := by decide +kernel
theorem dX12_report_85 : decode cX12_report 85 = .ok (.iadd, 1) := by decide +kernel
theorem dX12_report_86 : decode cX12_report 86 = .ok (.iload_n 2, 1) := by decide +kernel
theorem dX12_report_87 : decode cX12_report 87 = .ok (.iastore, 1) := by decide +kernel
theorem dX12_report_88 : decode cX12_report 88 = .ok (.aload_n 0, 1) := by decide +kernel
theorem dX12_report_89 : decode cX12_report 89 = .ok (.getfield 7, 3) := by decide +kernel
theorem dX12_report_92 : decode cX12_report 92 = .ok (.iload 4, 2) := by decide +kernel
theorem dX12_report_94 : decode cX12_report 94 = .ok (.iconst 2, 1) := by decide +kernel
theorem dX12_report_95 : decode cX12_report 95 = .ok (.iadd, 1) := by decide +kernel
theorem dX12_report_96 : decode cX12_report 96 = .ok (.iload_n 3, 1) := by decide +kernel
theorem dX12_report_97 : decode cX12_report 97 = .ok (.iastore, 1) := by decide +kernel
theorem dX12_report_98 : decode cX12_report 98 = .ok (.aload_n 0, 1) := by decide +kernel
theorem dX12_report_99 : decode cX12_report 99 = .ok (.getfield 7, 3) := by decide +kernel
theorem dX12_report_102 : decode cX12_report 102 = .ok (.bipush 59, 2) := by decide +kernel
theorem dX12_report_104 : decode cX12_report 104 = .ok (.dup2, 1) := by decide +kernel
theorem dX12_report_105 : decode cX12_report 105 = .ok (.iaload, 1) := by decide +kernel
theorem dX12_report_106 : decode cX12_report 106 = .ok (.iconst 1, 1) := by decide +kernel
theorem dX12_report_107 : decode cX12_report 107 = .ok (.iadd, 1) := by decide +kernel
theorem dX12_report_108 : decode cX12_report 108 = .ok (.iastore, 1) := by decide +kernel
theorem dX12_report_109 : decode cX12_report 109 = .ok (.aload_n 0, 1) := by decide +kernel
theorem dX12_report_110 : decode cX12_report 110 = .ok (.getfield 7, 3) := by decide +kernel
theorem dX12_report_113 : decode cX12_report 113 = .ok (.bipush 59, 2) := by decide +kernel
theorem dX12_report_115 : decode cX12_report 115 = .ok (.iaload, 1) := by decide +kernel
theorem dX12_report_116 : decode cX12_report 116 = .ok (.iconst 1, 1) := by decide +kernel
theorem dX12_report_117 : decode cX12_report 117 = .ok (.isub, 1) := by decide +kernel
theorem dX12_report_118 : decode cX12_report 118 = .ok (.ireturn, 1) := by decide +kernel
theorem dX12_areAlike_0 : decode cX12_areAlike 0 = .ok (.iconst 1, 1) := by decide +kernel
theorem dX12_areAlike_1 : decode cX12_areAlike 1 = .ok (.istore_n 2, 1) := by decide +kernel
theorem dX12_areAlike_2 : decode cX12_areAlike 2 = .ok (.iconst 0, 1) := by decide +kernel
theorem dX12_areAlike_3 : decode cX12_areAlike 3 = .ok (.istore_n 3, 1) := by decide +kernel
theorem dX12_areAlike_4 : decode cX12_areAlike 4 = .ok (.iload_n 3, 1) := by decide +kernel
theorem dX12_areAlike_5 : decode cX12_areAlike 5 = .ok (.aload_n 0, 1) := by decide +kernel
theorem dX12_areAlike_6 : decode cX12_areAlike 6 = .ok (.getfield 7, 3) := by decide +kernel
theorem dX12_areAlike_9 : decode cX12_areAlike 9 = .ok (.bipush 59, 2) := by decide +kernel
theorem dX12_areAlike_11 : decode cX12_areAlike 11 = .ok (.iaload, 1) := by decide +kernel
theorem dX12_areAlike_12 : decode cX12_areAlike 12 = .ok (.aload_n 0, 1) := by decide +kernel
theorem dX12_areAlike_13 : decode cX12_areAlike 13 = .ok (.getfield 7, 3) := by decide +kernel
theorem dX12_areAlike_16 : decode cX12_areAlike 16 = .ok (.bipush 59, 2) := by decide +kernel
theorem dX12_areAlike_18 : decode cX12_areAlike 18 = .ok (.iaload, 1) := by decide +kernel
theorem dX12_areAlike_19 : decode cX12_areAlike 19 = .ok (.imul, 1) := by decide +kernel
theorem dX12_areAlike_20 : decode cX12_areAlike 20 = .ok (.if_icmp .ge 133, 3) := by decide +kernel
theorem dX12_areAlike_23 : decode cX12_areAlike 23 = .ok (.bipush 60, 2) := by decide +kernel
theorem dX12_areAlike_25 : decode cX12_areAlike 25 = .ok (.iconst 3, 1) := by decide +kernel
theorem dX12_areAlike_26 : decode cX12_areAlike 26 = .ok (.iload_n 3, 1) := by decide +kernel
theorem dX12_areAlike_27 : decode cX12_areAlike 27 = .ok (.aload_n 0, 1) := by decide +kernel
theorem dX12_areAlike_28 : decode cX12_areAlike 28 = .ok (.getfield 7, 3) := by decide +kernel
theorem dX12_areAlike_31 : decode cX12_areAlike 31 = .ok (.bipush 59, 2) := by decide +kernel
theorem dX12_areAlike_33 : decode cX12_areAlike 33 = .ok (.iaload, 1) := by decide +kernel
theorem dX12_areAlike_34 : decode cX12_areAlike 34 = .ok (.idiv, 1) := by decide +kernel
theorem dX12_areAlike_35 : decode cX12_areAlike 35 = .ok (.imul, 1) := by decide +kernel
theorem dX12_areAlike_36 : decode cX12_areAlike 36 = .ok (.iadd, 1) := by decide +kernel
theorem dX12_areAlike_37 : decode cX12_areAlike 37 = .ok (.istore 4, 2) := by decide +kernel
theorem dX12_areAlike_39 : decode cX12_areAlike 39 = .ok (.bipush 60, 2) := by decide +kernel
theorem dX12_areAlike_41 : decode cX12_areAlike 41 = .ok (.iconst 3, 1) := by decide +kernel
theorem dX12_areAlike_42 : decode cX12_areAlike 42 = .ok (.iload_n 3, 1) := by decide +kernel
theorem dX12_areAlike_43 : decode cX12_areAlike 43 = .ok (.aload_n 0, 1) := by decide +kernel
theorem dX12_areAlike_44 : decode cX12_areAlike 44 = .ok (.getfield 7, 3) := by decide +kernel
theorem dX12_areAlike_47 : decode cX12_areAlike 47 = .ok (.bipush 59, 2) := by decide +kernel
theorem dX12_areAlike_49 : decode cX12_areAlike 49 = .ok (.iaload, 1) := by decide +kernel
theorem dX12_areAlike_50 : decode cX12_areAlike 50 = .ok (.irem, 1) := by decide +kernel
theorem dX12_areAlike_51 : decode cX12_areAlike 51 = .ok (.imul, 1) := by decide +kernel
theorem dX12_areAlike_52 : decode cX12_areAlike 52 = .ok (.iadd, 1) := by decide +kernel
theorem dX12_areAlike_53 : decode cX12_areAlike 53 = .ok (.istore 5, 2) := by decide +kernel
theorem dX12_areAlike_55 : decode cX12_areAlike 55 = .ok (.iload_n 1, 1) := by decide +kernel
theorem dX12_areAlike_56 : decode cX12_areAlike 56 = .ok (.aload_n 0, 1) := by decide +kernel
theorem dX12_areAlike_57 : decode cX12_areAlike 57 = .ok (.getfield 7, 3) := by decide +kernel
theorem dX12_areAlike_60 : decode cX12_areAlike 60 = .ok (.iload 4, 2) := by decide +kernel
theorem dX12_areAlike_62 : decode cX12_areAlike 62 = .ok (.iconst 1, 1) := by decide +kernel
theorem dX12_areAlike_63 : decode cX12_areAlike 63 = .ok (.iadd, 1) := by decide +kernel
theorem dX12_areAlike_64 : decode cX12_areAlike 64 = .ok (.iaload, 1) := by decide +kernel
theorem dX12_areAlike_65 : decode cX12_areAlike 65 = .ok (.ishr, 1) := by decide +kernel
theorem dX12_areAlike_66 : decode cX12_areAlike 66 = .ok (.iconst 1, 1) := by decide +kernel
theorem dX12_areAlike_67 : decode cX12_areAlike 67 = .ok (.iand, 1) := by decide +kernel
theorem dX12_areAlike_68 : decode cX12_areAlike 68 = .ok (.ifCond .ne 23, 3) := by decide +kernel
theorem dX12_areAlike_71 : decode cX12_areAlike 71 = .ok (.iload_n 1, 1) := by decide +kernel
theorem dX12_areAlike_72 : decode cX12_areAlike 72 = .ok (.aload_n 0, 1) := by decide +kernel
theorem dX12_areAlike_73 : decode cX12_areAlike 73 = .ok (.getfield 7, 3) := by decide +kernel
theorem dX12_areAlike_76 : decode cX12_areAlike 76 = .ok (.iload 5, 2) := by decide +kernel
theorem dX12_areAlike_78 : decode cX12_areAlike 78 = .ok (.iconst 1, 1) := by decide +kernel
theorem dX12_areAlike_79 : decode cX12_areAlike 79 = .ok (.iadd, 1) := by decide +kernel
theorem dX12_areAlike_80 : decode cX12_areAlike 80 = .ok (.iaload, 1) := by decide +kernel
theorem dX12_areAlike_81 : decode cX12_areAlike 81 = .ok (.ishr, 1) := by decide +kernel
theorem dX12_areAlike_82 : decode cX12_areAlike 82 = .ok (.iconst 1, 1) := by decide +kernel
theorem dX12_areAlike_83 : decode cX12_areAlike 83 = .ok (.iand, 1) := by decide +kernel
theorem dX12_areAlike_84 : decode cX12_areAlike 84 = .ok (.ifCond .ne 7, 3) := by decide +kernel
theorem dX12_areAlike_87 : decode cX12_areAlike 87 = .ok (.iconst 1, 1) := by decide +kernel
theorem dX12_areAlike_88 : decode cX12_areAlike 88 = .ok (.goto 4, 3) := by decide +kernel
theorem dX12_areAlike_91 : decode cX12_areAlike 91 = .ok (.iconst 0, 1) := by decide +kernel
theorem dX12_areAlike_92 : decode cX12_areAlike 92 = .ok (.istore 6, 2) := by decide +kernel
theorem dX12_areAlike_94 : decode cX12_areAlike 94 = .ok (.iload_n 2, 1) := by decide +kernel
theorem dX12_areAlike_95 : decode cX12_areAlike 95 = .ok (.ifCond .eq 50, 3) := by decide +kernel
theorem dX12_areAlike_98 : decode cX12_areAlike 98 = .ok (.iload 6, 2) := by decide +kernel
theorem dX12_areAlike_100 : decode cX12_areAlike 100 = .ok (.ifCond .eq 41, 3) := by decide +kernel
theorem dX12_areAlike_103 : decode cX12_areAlike 103 = .ok (.aload_n 0, 1) := by decide +kernel
theorem dX12_areAlike_104 : decode cX12_areAlike 104 = .ok (.getfield 7, 3) := by decide +kernel
theorem dX12_areAlike_107 : decode cX12_areAlike 107 = .ok (.iload 4, 2) := by decide +kernel
theorem dX12_areAlike_109 : decode cX12_areAlike 109 = .ok (.iaload, 1) := by decide +kernel
theorem dX12_areAlike_110 : decode cX12_areAlike 110 = .ok (.aload_n 0, 1) := by decide +kernel
theorem dX12_areAlike_111 : decode cX12_areAlike 111 = .ok (.getfield 7, 3) := by decide +kernel
theorem dX12_areAlike_114 : decode cX12_areAlike 114 = .ok (.iload 5, 2) := by decide +kernel
theorem dX12_areAlike_116 : decode cX12_areAlike 116 = .ok (.iaload, 1) := by decide +kernel
theorem dX12_areAlike_117 : decode cX12_areAlike 117 = .ok (.if_icmp .ne 24, 3) := by decide +kernel
theorem dX12_areAlike_120 : decode cX12_areAlike 120 = .ok (.aload_n 0, 1) := by decide +kernel
theorem dX12_areAlike_121 : decode cX12_areAlike 121 = .ok (.getfield 7, 3) := by decide +kernel
theorem dX12_areAlike_124 : decode cX12_areAlike 124 = .ok (.iload 4, 2) := by decide +kernel
theorem dX12_areAlike_126 : decode cX12_areAlike 126 = .ok (.iconst 2, 1) := by decide +kernel
theorem dX12_areAlike_127 : decode cX12_areAlike 127 = .ok (.iadd, 1) := by decide +kernel
theorem dX12_areAlike_128 : decode cX12_areAlike 128 = .ok (.iaload, 1) := by decide +kernel
theorem dX12_areAlike_129 : decode cX12_areAlike 129 = .ok (.aload_n 0, 1) := by decide +kernel
theorem dX12_areAlike_130 : decode cX12_areAlike 130 = .ok (.getfield 7, 3) := by decide +kernel
theorem dX12_areAlike_133 : decode cX12_areAlike 133 = .ok (.iload 5, 2) := by decide +kernel
theorem dX12_areAlike_135 : decode cX12_areAlike 135 = .ok (.iconst 2, 1) := by decide +kernel
theorem dX12_areAlike_136 : decode cX12_areAlike 136 = .ok (.iadd, 1) := by decide +kernel
theorem dX12_areAlike_137 : decode cX12_areAlike 137 = .ok (.iaload, 1) := by decide +kernel
theorem dX12_areAlike_138 : decode cX12_areAlike 138 = .ok (.if_icmp .ne 7, 3) := by decide +kernel
theorem dX12_areAlike_141 : decode cX12_areAlike 141 = .ok (.iconst 1, 1) := by decide +kernel
theorem dX12_areAlike_142 : decode cX12_areAlike 142 = .ok (.goto 4, 3) := by decide +kernel
theorem dX12_areAlike_145 : decode cX12_areAlike 145 = .ok (.iconst 0, 1) := by decide +kernel
theorem dX12_areAlike_146 : decode cX12_areAlike 146 = .ok (.istore_n 2, 1) := by decide +kernel
theorem dX12_areAlike_147 : decode cX12_areAlike 147 = .ok (.iinc 3 1, 3) := by decide +kernel
theorem dX12_areAlike_150 : decode cX12_areAlike 150 = .ok (.goto (-146), 3) := by decide +kernel
theorem dX12_areAlike_153 : decode cX12_areAlike 153 = .ok (.iload_n 2, 1) := by decide +kernel
theorem dX12_areAlike_154 : decode cX12_areAlike 154 = .ok (.ireturn, 1) := by decide +kernel
theorem dX12_liars_0 : decode cX12_liars 0 = .ok (.iload_n 1, 1) := by decide +kernel
theorem dX12_liars_1 : decode cX12_liars 1 = .ok (.i2l, 1) := by decide +kernel
theorem dX12_liars_2 : decode cX12_liars 2 = .ok (.lconst 0, 1) := by decide +kernel
theorem dX12_liars_3 : decode cX12_liars 3 = .ok (.lconst 1, 1) := by decide +kernel
theorem dX12_liars_4 : decode cX12_liars 4 = .ok (.invokestatic 56, 3) := by decide +kernel
theorem dX12_liars_7 : decode cX12_liars 7 = .ok (.ifCond .ne 10, 3) := by decide +kernel
theorem dX12_liars_10 : decode cX12_liars 10 = .ok (.aload_n 0, 1) := by decide +kernel
theorem dX12_liars_11 : decode cX12_liars 11 = .ok (.bipush (-2), 2) := by decide +kernel
theorem dX12_liars_13 : decode cX12_liars 13 = .ok (.invokevirtual 64, 3) := by decide +kernel
theorem dX12_liars_16 : decode cX12_liars 16 = .ok (.ireturn, 1) := by decide +kernel
theorem dX12_liars_17 : decode cX12_liars 17 = .ok (.iconst (-1), 1) := by decide +kernel
theorem dX12_liars_18 : decode cX12_liars 18 = .ok (.istore_n 2, 1) := by decide +kernel
theorem dX12_liars_19 : decode cX12_liars 19 = .ok (.iconst 1, 1) := by decide +kernel
theorem dX12_liars_20 : decode cX12_liars 20 = .ok (.aload_n 0, 1) := by decide +kernel
theorem dX12_liars_21 : decode cX12_liars 21 = .ok (.invokevirtual 52, 3) := by decide +kernel
theorem dX12_liars_24 : decode cX12_liars 24 = .ok (.ishl, 1) := by decide +kernel
theorem dX12_liars_25 : decode cX12_liars 25 = .ok (.iconst 1, 1) := by decide +kernel
theorem dX12_liars_26 : decode cX12_liars 26 = .ok (.isub, 1) := by decide +kernel
theorem dX12_liars_27 : decode cX12_liars 27 = .ok (.istore_n 3, 1) := by decide +kernel
theorem dX12_liars_28 : decode cX12_liars 28 = .ok (.iconst 0, 1) := by decide +kernel
theorem dX12_liars_29 : decode cX12_liars 29 = .ok (.istore 4, 2) := by decide +kernel
theorem dX12_liars_31 : decode cX12_liars 31 = .ok (.iload 4, 2) := by decide +kernel
theorem dX12_liars_33 : decode cX12_liars 33 = .ok (.iconst 1, 1) := by decide +kernel
theorem dX12_liars_34 : decode cX12_liars 34 = .ok (.aload_n 0, 1) := by decide +kernel
theorem dX12_liars_35 : decode cX12_liars 35 = .ok (.invokevirtual 52, 3) := by decide +kernel
theorem dX12_liars_38 : decode cX12_liars 38 = .ok (.ishl, 1) := by decide +kernel
theorem dX12_liars_39 : decode cX12_liars 39 = .ok (.if_icmp .ge 60, 3) := by decide +kernel
theorem dX12_liars_42 : decode cX12_liars 42 = .ok (.aload_n 0, 1) := by decide +kernel
theorem dX12_liars_43 : decode cX12_liars 43 = .ok (.iload 4, 2) := by decide +kernel
theorem dX12_liars_45 : decode cX12_liars 45 = .ok (.invokevirtual 206, 3) := by decide +kernel
theorem dX12_liars_48 : decode cX12_liars 48 = .ok (.istore 5, 2) := by decide +kernel
theorem dX12_liars_50 : decode cX12_liars 50 = .ok (.iload 5, 2) := by decide +kernel
theorem dX12_liars_52 : decode cX12_liars 52 = .ok (.ifCond .eq 25, 3) := by decide +kernel
theorem dX12_liars_55 : decode cX12_liars 55 = .ok (.iload_n 2, 1) := by decide +kernel
theorem dX12_liars_56 : decode cX12_liars 56 = .ok (.iconst (-1), 1) := by decide +kernel
theorem dX12_liars_57 : decode cX12_liars 57 = .ok (.if_icmp .eq 15, 3) := by decide +kernel
theorem dX12_liars_60 : decode cX12_liars 60 = .ok (.iload 4, 2) := by decide +kernel
theorem dX12_liars_62 : decode cX12_liars 62 = .ok (.invokestatic 175, 3) := by decide +kernel
theorem dX12_liars_65 : decode cX12_liars 65 = .ok (.iload_n 2, 1) := by decide +kernel
theorem dX12_liars_66 : decode cX12_liars 66 = .ok (.invokestatic 175, 3) := by decide +kernel
theorem dX12_liars_69 : decode cX12_liars 69 = .ok (.if_icmp .ge 8, 3) := by decide +kernel
theorem dX12_liars_72 : decode cX12_liars 72 = .ok (.iload 4, 2) := by decide +kernel
theorem dX12_liars_74 : decode cX12_liars 74 = .ok (.goto 4, 3) := by decide +kernel
theorem dX12_liars_77 : decode cX12_liars 77 = .ok (.iload_n 2, 1) := by decide +kernel
theorem dX12_liars_78 : decode cX12_liars 78 = .ok (.istore_n 2, 1) := by decide +kernel
theorem dX12_liars_79 : decode cX12_liars 79 = .ok (.iload_n 3, 1) := by decide +kernel
theorem dX12_liars_80 : decode cX12_liars 80 = .ok (.iload 5, 2) := by decide +kernel
theorem dX12_liars_82 : decode cX12_liars 82 = .ok (.ifCond .eq 8, 3) := by decide +kernel
theorem dX12_liars_85 : decode cX12_liars 85 = .ok (.iload 4, 2) := by decide +kernel
theorem dX12_liars_87 : decode cX12_liars 87 = .ok (.goto 4, 3) := by decide +kernel
theorem dX12_liars_90 : decode cX12_liars 90 = .ok (.iconst (-1), 1) := by decide +kernel
theorem dX12_liars_91 : decode cX12_liars 91 = .ok (.iand, 1) := by decide +kernel
theorem dX12_liars_92 : decode cX12_liars 92 = .ok (.istore_n 3, 1) := by decide +kernel
theorem dX12_liars_93 : decode cX12_liars 93 = .ok (.iinc 4 1, 3) := by decide +kernel
theorem dX12_liars_96 : decode cX12_liars 96 = .ok (.goto (-65), 3) := by decide +kernel
theorem dX12_liars_99 : decode cX12_liars 99 = .ok (.iload_n 1, 1) := by decide +kernel
theorem dX12_liars_100 : decode cX12_liars 100 = .ok (.ifCond .ne 7, 3) := by decide +kernel
theorem dX12_liars_103 : decode cX12_liars 103 = .ok (.iload_n 2, 1) := by decide +kernel
theorem dX12_liars_104 : decode cX12_liars 104 = .ok (.goto 4, 3) := by decide +kernel
theorem dX12_liars_107 : decode cX12_liars 107 = .ok (.iload_n 3, 1) := by decide +kernel
theorem dX12_liars_108 : decode cX12_liars 108 = .ok (.ireturn, 1) := by decide +kernel
theorem dX12_none_0 : decode cX12_none 0 = .ok (.iload_n 1, 1) := by decide +kernel
theorem dX12_none_1 : decode cX12_none 1 = .ok (.i2l, 1) := by decide +kernel
theorem dX12_none_2 : decode cX12_none 2 = .ok (.lconst 0, 1) := by decide +kernel
theorem dX12_none_3 : decode cX12_none 3 = .ok (.ldc2_w 60, 3) := by decide +kernel
theorem dX12_none_6 : decode cX12_none 6 = .ok (.invokestatic 56, 3) := by decide +kernel
theorem dX12_none_9 : decode cX12_none 9 = .ok (.ifCond .ne 10, 3) := by decide +kernel
theorem dX12_none_12 : decode cX12_none 12 = .ok (.aload_n 0, 1) := by decide +kernel
theorem dX12_none_13 : decode cX12_none 13 = .ok (.bipush (-2), 2) := by decide +kernel
theorem dX12_none_15 : decode cX12_none 15 = .ok (.invokevirtual 64, 3) := by decide +kernel
theorem dX12_none_18 : decode cX12_none 18 = .ok (.ireturn, 1) := by decide +kernel
theorem dX12_none_19 : decode cX12_none 19 = .ok (.iload_n 1, 1) := by decide +kernel
theorem dX12_none_20 : decode cX12_none 20 = .ok (.ifCond .ne 8, 3) := by decide +kernel
theorem dX12_none_23 : decode cX12_none 23 = .ok (.bipush 33, 2) := by decide +kernel
theorem dX12_none_25 : decode cX12_none 25 = .ok (.goto 15, 3) := by decide +kernel
theorem dX12_none_28 : decode cX12_none 28 = .ok (.iload_n 1, 1) := by decide +kernel
theorem dX12_none_29 : decode cX12_none 29 = .ok (.iconst 1, 1) := by decide +kernel
theorem dX12_none_30 : decode cX12_none 30 = .ok (.if_icmp .ne 8, 3) := by decide +kernel
theorem dX12_none_33 : decode cX12_none 33 = .ok (.bipush 59, 2) := by decide +kernel
theorem dX12_none_35 : decode cX12_none 35 = .ok (.goto 5, 3) := by decide +kernel
theorem dX12_none_38 : decode cX12_none 38 = .ok (.bipush 90, 2) := by decide +kernel
theorem dX12_none_40 : decode cX12_none 40 = .ok (.istore_n 2, 1) := by decide +kernel
theorem dX12_none_41 : decode cX12_none 41 = .ok (.aload_n 0, 1) := by decide +kernel
theorem dX12_none_42 : decode cX12_none 42 = .ok (.getfield 7, 3) := by decide +kernel
theorem dX12_none_45 : decode cX12_none 45 = .ok (.iload_n 2, 1) := by decide +kernel
theorem dX12_none_46 : decode cX12_none 46 = .ok (.iaload, 1) := by decide +kernel
theorem dX12_none_47 : decode cX12_none 47 = .ok (.istore_n 3, 1) := by decide +kernel
theorem dX12_none_48 : decode cX12_none 48 = .ok (.aload_n 0, 1) := by decide +kernel
theorem dX12_none_49 : decode cX12_none 49 = .ok (.getfield 7, 3) := by decide +kernel
theorem dX12_none_52 : decode cX12_none 52 = .ok (.iload_n 2, 1) := by decide +kernel
theorem dX12_none_53 : decode cX12_none 53 = .ok (.iconst 0, 1) := by decide +kernel
theorem dX12_none_54 : decode cX12_none 54 = .ok (.iastore, 1) := by decide +kernel
theorem dX12_none_55 : decode cX12_none 55 = .ok (.iload_n 3, 1) := by decide +kernel
theorem dX12_none_56 : decode cX12_none 56 = .ok (.ireturn, 1) := by decide +kernel
theorem dX12_place_0 : decode cX12_place 0 = .ok (.iload_n 1, 1) := by decide +kernel
theorem dX12_place_1 : decode cX12_place 1 = .ok (.istore_n 2, 1) := by decide +kernel
theorem dX12_place_2 : decode cX12_place 2 = .ok (.iconst 0, 1) := by decide +kernel
theorem dX12_place_3 : decode cX12_place 3 = .ok (.istore_n 3, 1) := by decide +kernel
theorem dX12_place_4 : decode cX12_place 4 = .ok (.iload_n 0, 1) := by decide +kernel
theorem dX12_place_5 : decode cX12_place 5 = .ok (.iload_n 3, 1) := by decide +kernel
theorem dX12_place_6 : decode cX12_place 6 = .ok (.ishr, 1) := by decide +kernel
theorem dX12_place_7 : decode cX12_place 7 = .ok (.iconst 1, 1) := by decide +kernel
theorem dX12_place_8 : decode cX12_place 8 = .ok (.iand, 1) := by decide +kernel
theorem dX12_place_9 : decode cX12_place 9 = .ok (.iconst 1, 1) := by decide +kernel
theorem dX12_place_10 : decode cX12_place 10 = .ok (.if_icmp .eq 7, 3) := by decide +kernel
theorem dX12_place_13 : decode cX12_place 13 = .ok (.iload_n 2, 1) := by decide +kernel
theorem dX12_place_14 : decode cX12_place 14 = .ok (.ifCond .le 25, 3) := by decide +kernel
theorem dX12_place_17 : decode cX12_place 17 = .ok (.iload_n 2, 1) := by decide +kernel
theorem dX12_place_18 : decode cX12_place 18 = .ok (.iload_n 0, 1) := by decide +kernel
theorem dX12_place_19 : decode cX12_place 19 = .ok (.iload_n 3, 1) := by decide +kernel
theorem dX12_place_20 : decode cX12_place 20 = .ok (.ishr, 1) := by decide +kernel
theorem dX12_place_21 : decode cX12_place 21 = .ok (.iconst 1, 1) := by decide +kernel
theorem dX12_place_22 : decode cX12_place 22 = .ok (.iand, 1) := by decide +kernel
theorem dX12_place_23 : decode cX12_place 23 = .ok (.ifCond .ne 7, 3) := by decide +kernel
theorem dX12_place_26 : decode cX12_place 26 = .ok (.iconst 1, 1) := by decide +kernel
theorem dX12_place_27 : decode cX12_place 27 = .ok (.goto 4, 3) := by decide +kernel
theorem dX12_place_30 : decode cX12_place 30 = .ok (.iconst 0, 1) := by decide +kernel
theorem dX12_place_31 : decode cX12_place 31 = .ok (.isub, 1) := by decide +kernel
theorem dX12_place_32 : decode cX12_place 32 = .ok (.istore_n 2, 1) := by decide +kernel
theorem dX12_place_33 : decode cX12_place 33 = .ok (.iinc 3 1, 3) := by decide +kernel
theorem dX12_place_36 : decode cX12_place 36 = .ok (.goto (-32), 3) := by decide +kernel
theorem dX12_place_39 : decode cX12_place 39 = .ok (.iload_n 3, 1) := by decide +kernel
theorem dX12_place_40 : decode cX12_place 40 = .ok (.ireturn, 1) := by decide +kernel
theorem dX12_lots_0 : decode cX12_lots 0 = .ok (.iload_n 1, 1) := by decide +kernel
theorem dX12_lots_1 : decode cX12_lots 1 = .ok (.i2l, 1) := by decide +kernel
theorem dX12_lots_2 : decode cX12_lots 2 = .ok (.lconst 0, 1) := by decide +kernel
theorem dX12_lots_3 : decode cX12_lots 3 = .ok (.ldc2_w 209, 3) := by decide +kernel
theorem dX12_lots_6 : decode cX12_lots 6 = .ok (.invokestatic 56, 3) := by decide +kernel
theorem dX12_lots_9 : decode cX12_lots 9 = .ok (.ifCond .eq 17, 3) := by decide +kernel
theorem dX12_lots_12 : decode cX12_lots 12 = .ok (.iload_n 2, 1) := by decide +kernel
theorem dX12_lots_13 : decode cX12_lots 13 = .ok (.i2l, 1) := by decide +kernel
theorem dX12_lots_14 : decode cX12_lots 14 = .ok (.lconst 0, 1) := by decide +kernel
theorem dX12_lots_15 : decode cX12_lots 15 = .ok (.aload_n 0, 1) := by decide +kernel
theorem dX12_lots_16 : decode cX12_lots 16 = .ok (.invokevirtual 52, 3) := by decide +kernel
theorem dX12_lots_19 : decode cX12_lots 19 = .ok (.i2l, 1) := by decide +kernel
theorem dX12_lots_20 : decode cX12_lots 20 = .ok (.invokestatic 56, 3) := by decide +kernel
theorem dX12_lots_23 : decode cX12_lots 23 = .ok (.ifCond .ne 10, 3) := by decide +kernel
theorem dX12_lots_26 : decode cX12_lots 26 = .ok (.aload_n 0, 1) := by decide +kernel
theorem dX12_lots_27 : decode cX12_lots 27 = .ok (.bipush (-2), 2) := by decide +kernel
theorem dX12_lots_29 : decode cX12_lots 29 = .ok (.invokevirtual 64, 3) := by decide +kernel
theorem dX12_lots_32 : decode cX12_lots 32 = .ok (.ireturn, 1) := by decide +kernel
theorem dX12_lots_33 : decode cX12_lots 33 = .ok (.iload_n 1, 1) := by decide +kernel
theorem dX12_lots_34 : decode cX12_lots 34 = .ok (.i2l, 1) := by decide +kernel
theorem dX12_lots_35 : decode cX12_lots 35 = .ok (.lstore_n 3, 1) := by decide +kernel
theorem dX12_lots_36 : decode cX12_lots 36 = .ok (.iconst 0, 1) := by decide +kernel
theorem dX12_lots_37 : decode cX12_lots 37 = .ok (.istore 5, 2) := by decide +kernel
theorem dX12_lots_39 : decode cX12_lots 39 = .ok (.iconst 0, 1) := by decide +kernel
theorem dX12_lots_40 : decode cX12_lots 40 = .ok (.istore 6, 2) := by decide +kernel
theorem dX12_lots_42 : decode cX12_lots 42 = .ok (.iload 6, 2) := by decide +kernel
theorem dX12_lots_44 : decode cX12_lots 44 = .ok (.iload_n 2, 1) := by decide +kernel
theorem dX12_lots_45 : decode cX12_lots 45 = .ok (.if_icmp .ge 50, 3) := by decide +kernel
theorem dX12_lots_48 : decode cX12_lots 48 = .ok (.lload_n 3, 1) := by decide +kernel
theorem dX12_lots_49 : decode cX12_lots 49 = .ok (.ldc2_w 211, 3) := by decide +kernel
theorem dX12_lots_52 : decode cX12_lots 52 = .ok (.lmul, 1) := by decide +kernel
theorem dX12_lots_53 : decode cX12_lots 53 = .ok (.ldc2_w 213, 3) := by decide +kernel
theorem dX12_lots_56 : decode cX12_lots 56 = .ok (.ladd, 1) := by decide +kernel
theorem dX12_lots_57 : decode cX12_lots 57 = .ok (.ldc2_w 215, 3) := by decide +kernel
theorem dX12_lots_60 : decode cX12_lots 60 = .ok (.lrem, 1) := by decide +kernel
theorem dX12_lots_61 : decode cX12_lots 61 = .ok (.lstore_n 3, 1) := by decide +kernel
theorem dX12_lots_62 : decode cX12_lots 62 = .ok (.iload 5, 2) := by decide +kernel
theorem dX12_lots_64 : decode cX12_lots 64 = .ok (.iconst 1, 1) := by decide +kernel
theorem dX12_lots_65 : decode cX12_lots 65 = .ok (.iload 5, 2) := by decide +kernel
theorem dX12_lots_67 : decode cX12_lots 67 = .ok (.lload_n 3, 1) := by decide +kernel
theorem dX12_lots_68 : decode cX12_lots 68 = .ok (.ldc2_w 217, 3) := by decide +kernel
theorem dX12_lots_71 : decode cX12_lots 71 = .ok (.ldiv, 1) := by decide +kernel
theorem dX12_lots_72 : decode cX12_lots 72 = .ok (.aload_n 0, 1) := by decide +kernel
theorem dX12_lots_73 : decode cX12_lots 73 = .ok (.invokevirtual 52, 3) := by decide +kernel
theorem dX12_lots_76 : decode cX12_lots 76 = .ok (.iload 6, 2) := by decide +kernel
theorem dX12_lots_78 : decode cX12_lots 78 = .ok (.isub, 1) := by decide +kernel
theorem dX12_lots_79 : decode cX12_lots 79 = .ok (.i2l, 1) := by decide +kernel
theorem dX12_lots_80 : decode cX12_lots 80 = .ok (.lrem, 1) := by decide +kernel
theorem dX12_lots_81 : decode cX12_lots 81 = .ok (.l2i, 1) := by decide +kernel
theorem dX12_lots_82 : decode cX12_lots 82 = .ok (.invokestatic 219, 3) := by decide +kernel
theorem dX12_lots_85 : decode cX12_lots 85 = .ok (.ishl, 1) := by decide +kernel
theorem dX12_lots_86 : decode cX12_lots 86 = .ok (.ior, 1) := by decide +kernel
theorem dX12_lots_87 : decode cX12_lots 87 = .ok (.istore 5, 2) := by decide +kernel
theorem dX12_lots_89 : decode cX12_lots 89 = .ok (.iinc 6 1, 3) := by decide +kernel
theorem dX12_lots_92 : decode cX12_lots 92 = .ok (.goto (-50), 3) := by decide +kernel
theorem dX12_lots_95 : decode cX12_lots 95 = .ok (.iload 5, 2) := by decide +kernel
theorem dX12_lots_97 : decode cX12_lots 97 = .ok (.ireturn, 1) := by decide +kernel
theorem dX12_hears_0 : decode cX12_hears 0 = .ok (.aload_n 0, 1) := by decide +kernel
theorem dX12_hears_1 : decode cX12_hears 1 = .ok (.getfield 36, 3) := by decide +kernel
theorem dX12_hears_4 : decode cX12_hears 4 = .ok (.iconst 0, 1) := by decide +kernel
theorem dX12_hears_5 : decode cX12_hears 5 = .ok (.iload_n 1, 1) := by decide +kernel
theorem dX12_hears_6 : decode cX12_hears 6 = .ok (.iastore, 1) := by decide +kernel
theorem dX12_hears_7 : decode cX12_hears 7 = .ok (.aload_n 0, 1) := by decide +kernel
theorem dX12_hears_8 : decode cX12_hears 8 = .ok (.getfield 36, 3) := by decide +kernel
theorem dX12_hears_11 : decode cX12_hears 11 = .ok (.iconst 1, 1) := by decide +kernel
theorem dX12_hears_12 : decode cX12_hears 12 = .ok (.iload_n 2, 1) := by decide +kernel
theorem dX12_hears_13 : decode cX12_hears 13 = .ok (.iastore, 1) := by decide +kernel
theorem dX12_hears_14 : decode cX12_hears 14 = .ok (.aload_n 0, 1) := by decide +kernel
theorem dX12_hears_15 : decode cX12_hears 15 = .ok (.getfield 36, 3) := by decide +kernel
theorem dX12_hears_18 : decode cX12_hears 18 = .ok (.iconst 2, 1) := by decide +kernel
theorem dX12_hears_19 : decode cX12_hears 19 = .ok (.iload_n 3, 1) := by decide +kernel
theorem dX12_hears_20 : decode cX12_hears 20 = .ok (.iastore, 1) := by decide +kernel
theorem dX12_hears_21 : decode cX12_hears 21 = .ok (.aload_n 0, 1) := by decide +kernel
theorem dX12_hears_22 : decode cX12_hears 22 = .ok (.getfield 36, 3) := by decide +kernel
theorem dX12_hears_25 : decode cX12_hears 25 = .ok (.iconst 3, 1) := by decide +kernel
theorem dX12_hears_26 : decode cX12_hears 26 = .ok (.iload 4, 2) := by decide +kernel
theorem dX12_hears_28 : decode cX12_hears 28 = .ok (.iastore, 1) := by decide +kernel
theorem dX12_hears_29 : decode cX12_hears 29 = .ok (.aload_n 0, 1) := by decide +kernel
theorem dX12_hears_30 : decode cX12_hears 30 = .ok (.getfield 36, 3) := by decide +kernel
theorem dX12_hears_33 : decode cX12_hears 33 = .ok (.iconst 4, 1) := by decide +kernel
theorem dX12_hears_34 : decode cX12_hears 34 = .ok (.iload 5, 2) := by decide +kernel
theorem dX12_hears_36 : decode cX12_hears 36 = .ok (.iastore, 1) := by decide +kernel
theorem dX12_hears_37 : decode cX12_hears 37 = .ok (.aload_n 0, 1) := by decide +kernel
theorem dX12_hears_38 : decode cX12_hears 38 = .ok (.getfield 36, 3) := by decide +kernel
theorem dX12_hears_41 : decode cX12_hears 41 = .ok (.iconst 5, 1) := by decide +kernel
theorem dX12_hears_42 : decode cX12_hears 42 = .ok (.iload 6, 2) := by decide +kernel
theorem dX12_hears_44 : decode cX12_hears 44 = .ok (.iastore, 1) := by decide +kernel
theorem dX12_hears_45 : decode cX12_hears 45 = .ok (.iconst 1, 1) := by decide +kernel
theorem dX12_hears_46 : decode cX12_hears 46 = .ok (.istore 7, 2) := by decide +kernel
theorem dX12_hears_48 : decode cX12_hears 48 = .ok (.iconst 0, 1) := by decide +kernel
theorem dX12_hears_49 : decode cX12_hears 49 = .ok (.istore 8, 2) := by decide +kernel
theorem dX12_hears_51 : decode cX12_hears 51 = .ok (.iload 8, 2) := by decide +kernel
theorem dX12_hears_53 : decode cX12_hears 53 = .ok (.bipush 6, 2) := by decide +kernel
theorem dX12_hears_55 : decode cX12_hears 55 = .ok (.if_icmp .ge 39, 3) := by decide +kernel
theorem dX12_hears_58 : decode cX12_hears 58 = .ok (.iload 7, 2) := by decide +kernel
theorem dX12_hears_60 : decode cX12_hears 60 = .ok (.ifCond .eq 25, 3) := by decide +kernel
theorem dX12_hears_63 : decode cX12_hears 63 = .ok (.aload_n 0, 1) := by decide +kernel
theorem dX12_hears_64 : decode cX12_hears 64 = .ok (.getfield 36, 3) := by decide +kernel
theorem dX12_hears_67 : decode cX12_hears 67 = .ok (.iload 8, 2) := by decide +kernel
theorem dX12_hears_69 : decode cX12_hears 69 = .ok (.iaload, 1) := by decide +kernel
theorem dX12_hears_70 : decode cX12_hears 70 = .ok (.i2l, 1) := by decide +kernel
theorem dX12_hears_71 : decode cX12_hears 71 = .ok (.lconst 0, 1) := by decide +kernel
theorem dX12_hears_72 : decode cX12_hears 72 = .ok (.ldc2_w 222, 3) := by decide +kernel
theorem dX12_hears_75 : decode cX12_hears 75 = .ok (.invokestatic 56, 3) := by decide +kernel
theorem dX12_hears_78 : decode cX12_hears 78 = .ok (.ifCond .eq 7, 3) := by decide +kernel
theorem dX12_hears_81 : decode cX12_hears 81 = .ok (.iconst 1, 1) := by decide +kernel
theorem dX12_hears_82 : decode cX12_hears 82 = .ok (.goto 4, 3) := by decide +kernel
theorem dX12_hears_85 : decode cX12_hears 85 = .ok (.iconst 0, 1) := by decide +kernel
theorem dX12_hears_86 : decode cX12_hears 86 = .ok (.istore 7, 2) := by decide +kernel
theorem dX12_hears_88 : decode cX12_hears 88 = .ok (.iinc 8 1, 3) := by decide +kernel
theorem dX12_hears_91 : decode cX12_hears 91 = .ok (.goto (-40), 3) := by decide +kernel
theorem dX12_hears_94 : decode cX12_hears 94 = .ok (.iload 7, 2) := by decide +kernel
theorem dX12_hears_96 : decode cX12_hears 96 = .ok (.ireturn, 1) := by decide +kernel
theorem dX12_word_0 : decode cX12_word 0 = .ok (.aload_n 0, 1) := by decide +kernel
theorem dX12_word_1 : decode cX12_word 1 = .ok (.iload_n 1, 1) := by decide +kernel
theorem dX12_word_2 : decode cX12_word 2 = .ok (.iload_n 2, 1) := by decide +kernel
theorem dX12_word_3 : decode cX12_word 3 = .ok (.iload_n 3, 1) := by decide +kernel
theorem dX12_word_4 : decode cX12_word 4 = .ok (.iload 4, 2) := by decide +kernel
theorem dX12_word_6 : decode cX12_word 6 = .ok (.iload 5, 2) := by decide +kernel
theorem dX12_word_8 : decode cX12_word 8 = .ok (.iload 6, 2) := by decide +kernel
theorem dX12_word_10 : decode cX12_word 10 = .ok (.invokevirtual 224, 3) := by decide +kernel
theorem dX12_word_13 : decode cX12_word 13 = .ok (.ifCond .ne 10, 3) := by decide +kernel
theorem dX12_word_16 : decode cX12_word 16 = .ok (.aload_n 0, 1) := by decide +kernel
theorem dX12_word_17 : decode cX12_word 17 = .ok (.bipush (-2), 2) := by decide +kernel
theorem dX12_word_19 : decode cX12_word 19 = .ok (.invokevirtual 64, 3) := by decide +kernel
theorem dX12_word_22 : decode cX12_word 22 = .ok (.ireturn, 1) := by decide +kernel
theorem dX12_word_23 : decode cX12_word 23 = .ok (.aload_n 0, 1) := by decide +kernel
theorem dX12_word_24 : decode cX12_word 24 = .ok (.getfield 7, 3) := by decide +kernel
theorem dX12_word_27 : decode cX12_word 27 = .ok (.bipush 90, 2) := by decide +kernel
theorem dX12_word_29 : decode cX12_word 29 = .ok (.iaload, 1) := by decide +kernel
theorem dX12_word_30 : decode cX12_word 30 = .ok (.iconst 4, 1) := by decide +kernel
theorem dX12_word_31 : decode cX12_word 31 = .ok (.if_icmp .ne 8, 3) := by decide +kernel
theorem dX12_word_34 : decode cX12_word 34 = .ok (.aload_n 0, 1) := by decide +kernel
theorem dX12_word_35 : decode cX12_word 35 = .ok (.invokevirtual 78, 3) := by decide +kernel
theorem dX12_word_38 : decode cX12_word 38 = .ok (.ireturn, 1) := by decide +kernel
theorem dX12_word_39 : decode cX12_word 39 = .ok (.iconst 0, 1) := by decide +kernel
theorem dX12_word_40 : decode cX12_word 40 = .ok (.istore 7, 2) := by decide +kernel
theorem dX12_word_42 : decode cX12_word 42 = .ok (.iload 7, 2) := by decide +kernel
theorem dX12_word_44 : decode cX12_word 44 = .ok (.bipush 6, 2) := by decide +kernel
theorem dX12_word_46 : decode cX12_word 46 = .ok (.if_icmp .ge 37, 3) := by decide +kernel
theorem dX12_word_49 : decode cX12_word 49 = .ok (.aload_n 0, 1) := by decide +kernel
theorem dX12_word_50 : decode cX12_word 50 = .ok (.getfield 7, 3) := by decide +kernel
theorem dX12_word_53 : decode cX12_word 53 = .ok (.bipush 91, 2) := by decide +kernel
theorem dX12_word_55 : decode cX12_word 55 = .ok (.bipush 6, 2) := by decide +kernel
theorem dX12_word_57 : decode cX12_word 57 = .ok (.aload_n 0, 1) := by decide +kernel
theorem dX12_word_58 : decode cX12_word 58 = .ok (.getfield 7, 3) := by decide +kernel
theorem dX12_word_61 : decode cX12_word 61 = .ok (.bipush 90, 2) := by decide +kernel
theorem dX12_word_63 : decode cX12_word 63 = .ok (.iaload, 1) := by decide +kernel
theorem dX12_word_64 : decode cX12_word 64 = .ok (.imul, 1) := by decide +kernel
theorem dX12_word_65 : decode cX12_word 65 = .ok (.iadd, 1) := by decide +kernel
theorem dX12_word_66 : decode cX12_word 66 = .ok (.iload 7, 2) := by decide +kernel
theorem dX12_word_68 : decode cX12_word 68 = .ok (.iadd, 1) := by decide +kernel
theorem dX12_word_69 : decode cX12_word 69 = .ok (.aload_n 0, 1) := by decide +kernel
theorem dX12_word_70 : decode cX12_word 70 = .ok (.getfield 36, 3) := by decide +kernel
theorem dX12_word_73 : decode cX12_word 73 = .ok (.iload 7, 2) := by decide +kernel
theorem dX12_word_75 : decode cX12_word 75 = .ok (.iaload, 1) := by decide +kernel
theorem dX12_word_76 : decode cX12_word 76 = .ok (.iastore, 1) := by decide +kernel
theorem dX12_word_77 : decode cX12_word 77 = .ok (.iinc 7 1, 3) := by decide +kernel
theorem dX12_word_80 : decode cX12_word 80 = .ok (.goto (-38), 3) := by decide +kernel
theorem dX12_word_83 : decode cX12_word 83 = .ok (.aload_n 0, 1) := by decide +kernel
theorem dX12_word_84 : decode cX12_word 84 = .ok (.getfield 7, 3) := by decide +kernel
theorem dX12_word_87 : decode cX12_word 87 = .ok (.bipush 90, 2) := by decide +kernel
theorem dX12_word_89 : decode cX12_word 89 = .ok (.dup2, 1) := by decide +kernel
theorem dX12_word_90 : decode cX12_word 90 = .ok (.iaload, 1) := by decide +kernel
theorem dX12_word_91 : decode cX12_word 91 = .ok (.iconst 1, 1) := by decide +kernel
theorem dX12_word_92 : decode cX12_word 92 = .ok (.iadd, 1) := by decide +kernel
theorem dX12_word_93 : decode cX12_word 93 = .ok (.iastore, 1) := by decide +kernel
theorem dX12_word_94 : decode cX12_word 94 = .ok (.aload_n 0, 1) := by decide +kernel
theorem dX12_word_95 : decode cX12_word 95 = .ok (.getfield 7, 3) := by decide +kernel
theorem dX12_word_98 : decode cX12_word 98 = .ok (.bipush 90, 2) := by decide +kernel
theorem dX12_word_100 : decode cX12_word 100 = .ok (.iaload, 1) := by decide +kernel
theorem dX12_word_101 : decode cX12_word 101 = .ok (.iconst 1, 1) := by decide +kernel
theorem dX12_word_102 : decode cX12_word 102 = .ok (.isub, 1) := by decide +kernel
theorem dX12_word_103 : decode cX12_word 103 = .ok (.ireturn, 1) := by decide +kernel
theorem dX12_isWord_0 : decode cX12_isWord 0 = .ok (.iload_n 1, 1) := by decide +kernel
theorem dX12_isWord_1 : decode cX12_isWord 1 = .ok (.i2l, 1) := by decide +kernel
theorem dX12_isWord_2 : decode cX12_isWord 2 = .ok (.lconst 0, 1) := by decide +kernel
theorem dX12_isWord_3 : decode cX12_isWord 3 = .ok (.aload_n 0, 1) := by decide +kernel
theorem dX12_isWord_4 : decode cX12_isWord 4 = .ok (.getfield 7, 3) := by decide +kernel
theorem dX12_isWord_7 : decode cX12_isWord 7 = .ok (.bipush 90, 2) := by decide +kernel
theorem dX12_isWord_9 : decode cX12_isWord 9 = .ok (.iaload, 1) := by decide +kernel
theorem dX12_isWord_10 : decode cX12_isWord 10 = .ok (.iconst 1, 1) := by decide +kernel
theorem dX12_isWord_11 : decode cX12_isWord 11 = .ok (.isub, 1) := by decide +kernel
theorem dX12_isWord_12 : decode cX12_isWord 12 = .ok (.i2l, 1) := by decide +kernel
theorem dX12_isWord_13 : decode cX12_isWord 13 = .ok (.invokestatic 56, 3) := by decide +kernel
theorem dX12_isWord_16 : decode cX12_isWord 16 = .ok (.ireturn, 1) := by decide +kernel
theorem dX12_toldOn_0 : decode cX12_toldOn 0 = .ok (.aload_n 0, 1) := by decide +kernel
theorem dX12_toldOn_1 : decode cX12_toldOn 1 = .ok (.iload_n 1, 1) := by decide +kernel
theorem dX12_toldOn_2 : decode cX12_toldOn 2 = .ok (.invokevirtual 228, 3) := by decide +kernel
theorem dX12_toldOn_5 : decode cX12_toldOn 5 = .ok (.ifCond .eq 27, 3) := by decide +kernel
theorem dX12_toldOn_8 : decode cX12_toldOn 8 = .ok (.iload_n 2, 1) := by decide +kernel
theorem dX12_toldOn_9 : decode cX12_toldOn 9 = .ok (.i2l, 1) := by decide +kernel
theorem dX12_toldOn_10 : decode cX12_toldOn 10 = .ok (.lconst 0, 1) := by decide +kernel
theorem dX12_toldOn_11 : decode cX12_toldOn 11 = .ok (.ldc2_w 231, 3) := by decide +kernel
theorem dX12_toldOn_14 : decode cX12_toldOn 14 = .ok (.invokestatic 56, 3) := by decide +kernel
theorem dX12_toldOn_17 : decode cX12_toldOn 17 = .ok (.ifCond .eq 15, 3) := by decide +kernel
theorem dX12_toldOn_20 : decode cX12_toldOn 20 = .ok (.iload_n 3, 1) := by decide +kernel
theorem dX12_toldOn_21 : decode cX12_toldOn 21 = .ok (.i2l, 1) := by decide +kernel
theorem dX12_toldOn_22 : decode cX12_toldOn 22 = .ok (.lconst 0, 1) := by decide +kernel
theorem dX12_toldOn_23 : decode cX12_toldOn 23 = .ok (.ldc2_w 142, 3) := by decide +kernel
theorem dX12_toldOn_26 : decode cX12_toldOn 26 = .ok (.invokestatic 56, 3) := by decide +kernel
theorem dX12_toldOn_29 : decode cX12_toldOn 29 = .ok (.ifCond .ne 10, 3) := by decide +kernel
theorem dX12_toldOn_32 : decode cX12_toldOn 32 = .ok (.aload_n 0, 1) := by decide +kernel
theorem dX12_toldOn_33 : decode cX12_toldOn 33 = .ok (.bipush (-2), 2) := by decide +kernel
theorem dX12_toldOn_35 : decode cX12_toldOn 35 = .ok (.invokevirtual 64, 3) := by decide +kernel
theorem dX12_toldOn_38 : decode cX12_toldOn 38 = .ok (.ireturn, 1) := by decide +kernel
theorem dX12_toldOn_39 : decode cX12_toldOn 39 = .ok (.aload_n 0, 1) := by decide +kernel
theorem dX12_toldOn_40 : decode cX12_toldOn 40 = .ok (.getfield 7, 3) := by decide +kernel
theorem dX12_toldOn_43 : decode cX12_toldOn 43 = .ok (.bipush 91, 2) := by decide +kernel
theorem dX12_toldOn_45 : decode cX12_toldOn 45 = .ok (.bipush 6, 2) := by decide +kernel
theorem dX12_toldOn_47 : decode cX12_toldOn 47 = .ok (.iload_n 1, 1) := by decide +kernel
theorem dX12_toldOn_48 : decode cX12_toldOn 48 = .ok (.imul, 1) := by decide +kernel
theorem dX12_toldOn_49 : decode cX12_toldOn 49 = .ok (.iadd, 1) := by decide +kernel
theorem dX12_toldOn_50 : decode cX12_toldOn 50 = .ok (.iload_n 3, 1) := by decide +kernel
theorem dX12_toldOn_51 : decode cX12_toldOn 51 = .ok (.iadd, 1) := by decide +kernel
theorem dX12_toldOn_52 : decode cX12_toldOn 52 = .ok (.iaload, 1) := by decide +kernel
theorem dX12_toldOn_53 : decode cX12_toldOn 53 = .ok (.istore 4, 2) := by decide +kernel
theorem dX12_toldOn_55 : decode cX12_toldOn 55 = .ok (.iconst 1, 1) := by decide +kernel
theorem dX12_toldOn_56 : decode cX12_toldOn 56 = .ok (.istore 5, 2) := by decide +kernel
theorem dX12_toldOn_58 : decode cX12_toldOn 58 = .ok (.iload 5, 2) := by decide +kernel
theorem dX12_toldOn_60 : decode cX12_toldOn 60 = .ok (.iload_n 2, 1) := by decide +kernel
theorem dX12_toldOn_61 : decode cX12_toldOn 61 = .ok (.if_icmp .gt 49, 3) := by decide +kernel
theorem dX12_toldOn_64 : decode cX12_toldOn 64 = .ok (.iload 5, 2) := by decide +kernel
theorem dX12_toldOn_66 : decode cX12_toldOn 66 = .ok (.iconst 2, 1) := by decide +kernel
theorem dX12_toldOn_67 : decode cX12_toldOn 67 = .ok (.irem, 1) := by decide +kernel
theorem dX12_toldOn_68 : decode cX12_toldOn 68 = .ok (.iconst 1, 1) := by decide +kernel
theorem dX12_toldOn_69 : decode cX12_toldOn 69 = .ok (.if_icmp .ne 7, 3) := by decide +kernel
theorem dX12_toldOn_72 : decode cX12_toldOn 72 = .ok (.iconst 1, 1) := by decide +kernel
theorem dX12_toldOn_73 : decode cX12_toldOn 73 = .ok (.goto 5, 3) := by decide +kernel
theorem dX12_toldOn_76 : decode cX12_toldOn 76 = .ok (.bipush 25, 2) := by decide +kernel
theorem dX12_toldOn_78 : decode cX12_toldOn 78 = .ok (.istore 6, 2) := by decide +kernel
theorem dX12_toldOn_80 : decode cX12_toldOn 80 = .ok (.iload 5, 2) := by decide +kernel
theorem dX12_toldOn_82 : decode cX12_toldOn 82 = .ok (.bipush 6, 2) := by decide +kernel
theorem dX12_toldOn_84 : decode cX12_toldOn 84 = .ok (.irem, 1) := by decide +kernel
theorem dX12_toldOn_85 : decode cX12_toldOn 85 = .ok (.iload_n 3, 1) := by decide +kernel
theorem dX12_toldOn_86 : decode cX12_toldOn 86 = .ok (.if_icmp .ne 14, 3) := by decide +kernel
theorem dX12_toldOn_89 : decode cX12_toldOn 89 = .ok (.iload 4, 2) := by decide +kernel
theorem dX12_toldOn_91 : decode cX12_toldOn 91 = .ok (.iload 6, 2) := by decide +kernel
theorem dX12_toldOn_93 : decode cX12_toldOn 93 = .ok (.iadd, 1) := by decide +kernel
theorem dX12_toldOn_94 : decode cX12_toldOn 94 = .ok (.bipush 26, 2) := by decide +kernel
theorem dX12_toldOn_96 : decode cX12_toldOn 96 = .ok (.irem, 1) := by decide +kernel
theorem dX12_toldOn_97 : decode cX12_toldOn 97 = .ok (.goto 5, 3) := by decide +kernel
theorem dX12_toldOn_100 : decode cX12_toldOn 100 = .ok (.iload 4, 2) := by decide +kernel
theorem dX12_toldOn_102 : decode cX12_toldOn 102 = .ok (.istore 4, 2) := by decide +kernel
theorem dX12_toldOn_104 : decode cX12_toldOn 104 = .ok (.iinc 5 1, 3) := by decide +kernel
theorem dX12_toldOn_107 : decode cX12_toldOn 107 = .ok (.goto (-49), 3) := by decide +kernel
theorem dX12_toldOn_110 : decode cX12_toldOn 110 = .ok (.iload 4, 2) := by decide +kernel
theorem dX12_toldOn_112 : decode cX12_toldOn 112 = .ok (.ireturn, 1) := by decide +kernel
theorem dX12_apartOf_0 : decode cX12_apartOf 0 = .ok (.iconst 0, 1) := by decide +kernel
theorem dX12_apartOf_1 : decode cX12_apartOf 1 = .ok (.istore_n 3, 1) := by decide +kernel
theorem dX12_apartOf_2 : decode cX12_apartOf 2 = .ok (.iconst 0, 1) := by decide +kernel
theorem dX12_apartOf_3 : decode cX12_apartOf 3 = .ok (.istore 4, 2) := by decide +kernel
theorem dX12_apartOf_5 : decode cX12_apartOf 5 = .ok (.iload 4, 2) := by decide +kernel
theorem dX12_apartOf_7 : decode cX12_apartOf 7 = .ok (.bipush 6, 2) := by decide +kernel
theorem dX12_apartOf_9 : decode cX12_apartOf 9 = .ok (.if_icmp .ge 50, 3) := by decide +kernel
theorem dX12_apartOf_12 : decode cX12_apartOf 12 = .ok (.iload_n 3, 1) := by decide +kernel
theorem dX12_apartOf_13 : decode cX12_apartOf 13 = .ok (.aload_n 0, 1) := by decide +kernel
theorem dX12_apartOf_14 : decode cX12_apartOf 14 = .ok (.getfield 7, 3) := by decide +kernel
theorem dX12_apartOf_17 : decode cX12_apartOf 17 = .ok (.bipush 91, 2) := by decide +kernel
theorem dX12_apartOf_19 : decode cX12_apartOf 19 = .ok (.bipush 6, 2) := by decide +kernel
theorem dX12_apartOf_21 : decode cX12_apartOf 21 = .ok (.iload_n 1, 1) := by decide +kernel
theorem dX12_apartOf_22 : decode cX12_apartOf 22 = .ok (.imul, 1) := by decide +kernel
theorem dX12_apartOf_23 : decode cX12_apartOf 23 = .ok (.iadd, 1) := by decide +kernel
theorem dX12_apartOf_24 : decode cX12_apartOf 24 = .ok (.iload 4, 2) := by decide +kernel
theorem dX12_apartOf_26 : decode cX12_apartOf 26 = .ok (.iadd, 1) := by decide +kernel
theorem dX12_apartOf_27 : decode cX12_apartOf 27 = .ok (.iaload, 1) := by decide +kernel
theorem dX12_apartOf_28 : decode cX12_apartOf 28 = .ok (.aload_n 0, 1) := by decide +kernel
theorem dX12_apartOf_29 : decode cX12_apartOf 29 = .ok (.getfield 7, 3) := by decide +kernel
theorem dX12_apartOf_32 : decode cX12_apartOf 32 = .ok (.bipush 91, 2) := by decide +kernel
theorem dX12_apartOf_34 : decode cX12_apartOf 34 = .ok (.bipush 6, 2) := by decide +kernel
theorem dX12_apartOf_36 : decode cX12_apartOf 36 = .ok (.iload_n 2, 1) := by decide +kernel
theorem dX12_apartOf_37 : decode cX12_apartOf 37 = .ok (.imul, 1) := by decide +kernel
theorem dX12_apartOf_38 : decode cX12_apartOf 38 = .ok (.iadd, 1) := by decide +kernel
theorem dX12_apartOf_39 : decode cX12_apartOf 39 = .ok (.iload 4, 2) := by decide +kernel
theorem dX12_apartOf_41 : decode cX12_apartOf 41 = .ok (.iadd, 1) := by decide +kernel
theorem dX12_apartOf_42 : decode cX12_apartOf 42 = .ok (.iaload, 1) := by decide +kernel
theorem dX12_apartOf_43 : decode cX12_apartOf 43 = .ok (.if_icmp .ne 7, 3) := by decide +kernel
theorem dX12_apartOf_46 : decode cX12_apartOf 46 = .ok (.iconst 0, 1) := by decide +kernel
theorem dX12_apartOf_47 : decode cX12_apartOf 47 = .ok (.goto 4, 3) := by decide +kernel
theorem dX12_apartOf_50 : decode cX12_apartOf 50 = .ok (.iconst 1, 1) := by decide +kernel
theorem dX12_apartOf_51 : decode cX12_apartOf 51 = .ok (.iadd, 1) := by decide +kernel
theorem dX12_apartOf_52 : decode cX12_apartOf 52 = .ok (.istore_n 3, 1) := by decide +kernel
theorem dX12_apartOf_53 : decode cX12_apartOf 53 = .ok (.iinc 4 1, 3) := by decide +kernel
theorem dX12_apartOf_56 : decode cX12_apartOf 56 = .ok (.goto (-51), 3) := by decide +kernel
theorem dX12_apartOf_59 : decode cX12_apartOf 59 = .ok (.iload_n 3, 1) := by decide +kernel
theorem dX12_apartOf_60 : decode cX12_apartOf 60 = .ok (.ireturn, 1) := by decide +kernel
theorem dX12_apart_0 : decode cX12_apart 0 = .ok (.aload_n 0, 1) := by decide +kernel
theorem dX12_apart_1 : decode cX12_apart 1 = .ok (.iload_n 1, 1) := by decide +kernel
theorem dX12_apart_2 : decode cX12_apart 2 = .ok (.invokevirtual 228, 3) := by decide +kernel
theorem dX12_apart_5 : decode cX12_apart 5 = .ok (.ifCond .eq 20, 3) := by decide +kernel
theorem dX12_apart_8 : decode cX12_apart 8 = .ok (.aload_n 0, 1) := by decide +kernel
theorem dX12_apart_9 : decode cX12_apart 9 = .ok (.iload_n 2, 1) := by decide +kernel
theorem dX12_apart_10 : decode cX12_apart 10 = .ok (.invokevirtual 228, 3) := by decide +kernel
theorem dX12_apart_13 : decode cX12_apart 13 = .ok (.ifCond .eq 12, 3) := by decide +kernel
theorem dX12_apart_16 : decode cX12_apart 16 = .ok (.aload_n 0, 1) := by decide +kernel
theorem dX12_apart_17 : decode cX12_apart 17 = .ok (.iload_n 1, 1) := by decide +kernel
theorem dX12_apart_18 : decode cX12_apart 18 = .ok (.iload_n 2, 1) := by decide +kernel
theorem dX12_apart_19 : decode cX12_apart 19 = .ok (.invokevirtual 233, 3) := by decide +kernel
theorem dX12_apart_22 : decode cX12_apart 22 = .ok (.goto 9, 3) := by decide +kernel
theorem dX12_apart_25 : decode cX12_apart 25 = .ok (.aload_n 0, 1) := by decide +kernel
theorem dX12_apart_26 : decode cX12_apart 26 = .ok (.bipush (-2), 2) := by decide +kernel
theorem dX12_apart_28 : decode cX12_apart 28 = .ok (.invokevirtual 64, 3) := by decide +kernel
theorem dX12_apart_31 : decode cX12_apart 31 = .ok (.ireturn, 1) := by decide +kernel
theorem dX12_bears_0 : decode cX12_bears 0 = .ok (.ldc 236, 2) := by decide +kernel
theorem dX12_bears_2 : decode cX12_bears 2 = .ok (.istore_n 1, 1) := by decide +kernel
theorem dX12_bears_3 : decode cX12_bears 3 = .ok (.iconst 0, 1) := by decide +kernel
theorem dX12_bears_4 : decode cX12_bears 4 = .ok (.istore_n 2, 1) := by decide +kernel
theorem dX12_bears_5 : decode cX12_bears 5 = .ok (.iload_n 2, 1) := by decide +kernel
theorem dX12_bears_6 : decode cX12_bears 6 = .ok (.aload_n 0, 1) := by decide +kernel
theorem dX12_bears_7 : decode cX12_bears 7 = .ok (.getfield 7, 3) := by decide +kernel
theorem dX12_bears_10 : decode cX12_bears 10 = .ok (.bipush 90, 2) := by decide +kernel
theorem dX12_bears_12 : decode cX12_bears 12 = .ok (.iaload, 1) := by decide +kernel
theorem dX12_bears_13 : decode cX12_bears 13 = .ok (.if_icmp .ge 51, 3) := by decide +kernel
theorem dX12_bears_16 : decode cX12_bears 16 = .ok (.iload_n 2, 1) := by decide +kernel
theorem dX12_bears_17 : decode cX12_bears 17 = .ok (.iconst 1, 1) := by decide +kernel
theorem dX12_bears_18 : decode cX12_bears 18 = .ok (.iadd, 1) := by decide +kernel
theorem dX12_bears_19 : decode cX12_bears 19 = .ok (.istore_n 3, 1) := by decide +kernel
theorem dX12_bears_20 : decode cX12_bears 20 = .ok (.iload_n 3, 1) := by decide +kernel
theorem dX12_bears_21 : decode cX12_bears 21 = .ok (.aload_n 0, 1) := by decide +kernel
theorem dX12_bears_22 : decode cX12_bears 22 = .ok (.getfield 7, 3) := by decide +kernel
theorem dX12_bears_25 : decode cX12_bears 25 = .ok (.bipush 90, 2) := by decide +kernel
theorem dX12_bears_27 : decode cX12_bears 27 = .ok (.iaload, 1) := by decide +kernel
theorem dX12_bears_28 : decode cX12_bears 28 = .ok (.if_icmp .ge 30, 3) := by decide +kernel
theorem dX12_bears_31 : decode cX12_bears 31 = .ok (.aload_n 0, 1) := by decide +kernel
theorem dX12_bears_32 : decode cX12_bears 32 = .ok (.iload_n 2, 1) := by decide +kernel
theorem dX12_bears_33 : decode cX12_bears 33 = .ok (.iload_n 3, 1) := by decide +kernel
theorem dX12_bears_34 : decode cX12_bears 34 = .ok (.invokevirtual 233, 3) := by decide +kernel
theorem dX12_bears_37 : decode cX12_bears 37 = .ok (.iload_n 1, 1) := by decide +kernel
theorem dX12_bears_38 : decode cX12_bears 38 = .ok (.if_icmp .ge 12, 3) := by decide +kernel
theorem dX12_bears_41 : decode cX12_bears 41 = .ok (.aload_n 0, 1) := by decide +kernel
theorem dX12_bears_42 : decode cX12_bears 42 = .ok (.iload_n 2, 1) := by decide +kernel
theorem dX12_bears_43 : decode cX12_bears 43 = .ok (.iload_n 3, 1) := by decide +kernel
theorem dX12_bears_44 : decode cX12_bears 44 = .ok (.invokevirtual 233, 3) := by decide +kernel
theorem dX12_bears_47 : decode cX12_bears 47 = .ok (.goto 4, 3) := by decide +kernel
theorem dX12_bears_50 : decode cX12_bears 50 = .ok (.iload_n 1, 1) := by decide +kernel
theorem dX12_bears_51 : decode cX12_bears 51 = .ok (.istore_n 1, 1) := by decide +kernel
theorem dX12_bears_52 : decode cX12_bears 52 = .ok (.iinc 3 1, 3) := by decide +kernel
theorem dX12_bears_55 : decode cX12_bears 55 = .ok (.goto (-35), 3) := by decide +kernel
theorem dX12_bears_58 : decode cX12_bears 58 = .ok (.iinc 2 1, 3) := by decide +kernel
theorem dX12_bears_61 : decode cX12_bears 61 = .ok (.goto (-56), 3) := by decide +kernel
theorem dX12_bears_64 : decode cX12_bears 64 = .ok (.iload_n 1, 1) := by decide +kernel
theorem dX12_bears_65 : decode cX12_bears 65 = .ok (.ldc 236, 2) := by decide +kernel
theorem dX12_bears_67 : decode cX12_bears 67 = .ok (.if_icmp .ne 7, 3) := by decide +kernel
theorem dX12_bears_70 : decode cX12_bears 70 = .ok (.iconst (-1), 1) := by decide +kernel
theorem dX12_bears_71 : decode cX12_bears 71 = .ok (.goto 16, 3) := by decide +kernel
theorem dX12_bears_74 : decode cX12_bears 74 = .ok (.iload_n 1, 1) := by decide +kernel
theorem dX12_bears_75 : decode cX12_bears 75 = .ok (.ifCond .ne 7, 3) := by decide +kernel
theorem dX12_bears_78 : decode cX12_bears 78 = .ok (.iconst 0, 1) := by decide +kernel
theorem dX12_bears_79 : decode cX12_bears 79 = .ok (.goto 8, 3) := by decide +kernel
theorem dX12_bears_82 : decode cX12_bears 82 = .ok (.iload_n 1, 1) := by decide +kernel
theorem dX12_bears_83 : decode cX12_bears 83 = .ok (.iconst 1, 1) := by decide +kernel
theorem dX12_bears_84 : decode cX12_bears 84 = .ok (.isub, 1) := by decide +kernel
theorem dX12_bears_85 : decode cX12_bears 85 = .ok (.iconst 2, 1) := by decide +kernel
theorem dX12_bears_86 : decode cX12_bears 86 = .ok (.idiv, 1) := by decide +kernel
theorem dX12_bears_87 : decode cX12_bears 87 = .ok (.ireturn, 1) := by decide +kernel
theorem dX12_meant_0 : decode cX12_meant 0 = .ok (.aload_n 0, 1) := by decide +kernel
theorem dX12_meant_1 : decode cX12_meant 1 = .ok (.iload_n 1, 1) := by decide +kernel
theorem dX12_meant_2 : decode cX12_meant 2 = .ok (.iload_n 2, 1) := by decide +kernel
theorem dX12_meant_3 : decode cX12_meant 3 = .ok (.iload_n 3, 1) := by decide +kernel
theorem dX12_meant_4 : decode cX12_meant 4 = .ok (.iload 4, 2) := by decide +kernel
theorem dX12_meant_6 : decode cX12_meant 6 = .ok (.iload 5, 2) := by decide +kernel
theorem dX12_meant_8 : decode cX12_meant 8 = .ok (.iload 6, 2) := by decide +kernel
theorem dX12_meant_10 : decode cX12_meant 10 = .ok (.invokevirtual 224, 3) := by decide +kernel
theorem dX12_meant_13 : decode cX12_meant 13 = .ok (.ifCond .ne 10, 3) := by decide +kernel
theorem dX12_meant_16 : decode cX12_meant 16 = .ok (.aload_n 0, 1) := by decide +kernel
theorem dX12_meant_17 : decode cX12_meant 17 = .ok (.bipush (-2), 2) := by decide +kernel
theorem dX12_meant_19 : decode cX12_meant 19 = .ok (.invokevirtual 64, 3) := by decide +kernel
theorem dX12_meant_22 : decode cX12_meant 22 = .ok (.ireturn, 1) := by decide +kernel
theorem dX12_meant_23 : decode cX12_meant 23 = .ok (.iconst (-1), 1) := by decide +kernel
theorem dX12_meant_24 : decode cX12_meant 24 = .ok (.istore 7, 2) := by decide +kernel
theorem dX12_meant_26 : decode cX12_meant 26 = .ok (.ldc 236, 2) := by decide +kernel
theorem dX12_meant_28 : decode cX12_meant 28 = .ok (.istore 8, 2) := by decide +kernel
theorem dX12_meant_30 : decode cX12_meant 30 = .ok (.iconst 0, 1) := by decide +kernel
theorem dX12_meant_31 : decode cX12_meant 31 = .ok (.istore 9, 2) := by decide +kernel
theorem dX12_meant_33 : decode cX12_meant 33 = .ok (.iload 9, 2) := by decide +kernel
theorem dX12_meant_35 : decode cX12_meant 35 = .ok (.aload_n 0, 1) := by decide +kernel
theorem dX12_meant_36 : decode cX12_meant 36 = .ok (.getfield 7, 3) := by decide +kernel
theorem dX12_meant_39 : decode cX12_meant 39 = .ok (.bipush 90, 2) := by decide +kernel
theorem dX12_meant_41 : decode cX12_meant 41 = .ok (.iaload, 1) := by decide +kernel
theorem dX12_meant_42 : decode cX12_meant 42 = .ok (.if_icmp .ge 96, 3) := by decide +kernel
theorem dX12_meant_45 : decode cX12_meant 45 = .ok (.iconst 0, 1) := by decide +kernel
theorem dX12_meant_46 : decode cX12_meant 46 = .ok (.istore 10, 2) := by decide +kernel
theorem dX12_meant_48 : decode cX12_meant 48 = .ok (.iconst 0, 1) := by decide +kernel
theorem dX12_meant_49 : decode cX12_meant 49 = .ok (.istore 11, 2) := by decide +kernel
theorem dX12_meant_51 : decode cX12_meant 51 = .ok (.iload 11, 2) := by decide +kernel
theorem dX12_meant_53 : decode cX12_meant 53 = .ok (.bipush 6, 2) := by decide +kernel
theorem dX12_meant_55 : decode cX12_meant 55 = .ok (.if_icmp .ge 45, 3) := by decide +kernel
theorem dX12_meant_58 : decode cX12_meant 58 = .ok (.iload 10, 2) := by decide +kernel
theorem dX12_meant_60 : decode cX12_meant 60 = .ok (.aload_n 0, 1) := by decide +kernel
theorem dX12_meant_61 : decode cX12_meant 61 = .ok (.getfield 7, 3) := by decide +kernel
theorem dX12_meant_64 : decode cX12_meant 64 = .ok (.bipush 91, 2) := by decide +kernel
theorem dX12_meant_66 : decode cX12_meant 66 = .ok (.bipush 6, 2) := by decide +kernel
theorem dX12_meant_68 : decode cX12_meant 68 = .ok (.iload 9, 2) := by decide +kernel
theorem dX12_meant_70 : decode cX12_meant 70 = .ok (.imul, 1) := by decide +kernel
theorem dX12_meant_71 : decode cX12_meant 71 = .ok (.iadd, 1) := by decide +kernel
theorem dX12_meant_72 : decode cX12_meant 72 = .ok (.iload 11, 2) := by decide +kernel
theorem dX12_meant_74 : decode cX12_meant 74 = .ok (.iadd, 1) := by decide +kernel
theorem dX12_meant_75 : decode cX12_meant 75 = .ok (.iaload, 1) := by decide +kernel
theorem dX12_meant_76 : decode cX12_meant 76 = .ok (.aload_n 0, 1) := by decide +kernel
theorem dX12_meant_77 : decode cX12_meant 77 = .ok (.getfield 36, 3) := by decide +kernel
theorem dX12_meant_80 : decode cX12_meant 80 = .ok (.iload 11, 2) := by decide +kernel
theorem dX12_meant_82 : decode cX12_meant 82 = .ok (.iaload, 1) := by decide +kernel
theorem dX12_meant_83 : decode cX12_meant 83 = .ok (.if_icmp .ne 7, 3) := by decide +kernel
theorem dX12_meant_86 : decode cX12_meant 86 = .ok (.iconst 0, 1) := by decide +kernel
theorem dX12_meant_87 : decode cX12_meant 87 = .ok (.goto 4, 3) := by decide +kernel
theorem dX12_meant_90 : decode cX12_meant 90 = .ok (.iconst 1, 1) := by decide +kernel
theorem dX12_meant_91 : decode cX12_meant 91 = .ok (.iadd, 1) := by decide +kernel
theorem dX12_meant_92 : decode cX12_meant 92 = .ok (.istore 10, 2) := by decide +kernel
theorem dX12_meant_94 : decode cX12_meant 94 = .ok (.iinc 11 1, 3) := by decide +kernel
theorem dX12_meant_97 : decode cX12_meant 97 = .ok (.goto (-46), 3) := by decide +kernel
theorem dX12_meant_100 : decode cX12_meant 100 = .ok (.iload 10, 2) := by decide +kernel
theorem dX12_meant_102 : decode cX12_meant 102 = .ok (.iload 8, 2) := by decide +kernel
theorem dX12_meant_104 : decode cX12_meant 104 = .ok (.if_icmp .ge 8, 3) := by decide +kernel
theorem dX12_meant_107 : decode cX12_meant 107 = .ok (.iload 9, 2) := by decide +kernel
theorem dX12_meant_109 : decode cX12_meant 109 = .ok (.goto 5, 3) := by decide +kernel
theorem dX12_meant_112 : decode cX12_meant 112 = .ok (.iload 7, 2) := by decide +kernel
theorem dX12_meant_114 : decode cX12_meant 114 = .ok (.istore 7, 2) := by decide +kernel
theorem dX12_meant_116 : decode cX12_meant 116 = .ok (.iload 10, 2) := by decide +kernel
theorem dX12_meant_118 : decode cX12_meant 118 = .ok (.iload 8, 2) := by decide +kernel
theorem dX12_meant_120 : decode cX12_meant 120 = .ok (.if_icmp .ge 8, 3) := by decide +kernel
theorem dX12_meant_123 : decode cX12_meant 123 = .ok (.iload 10, 2) := by decide +kernel
theorem dX12_meant_125 : decode cX12_meant 125 = .ok (.goto 5, 3) := by decide +kernel
theorem dX12_meant_128 : decode cX12_meant 128 = .ok (.iload 8, 2) := by decide +kernel
theorem dX12_meant_130 : decode cX12_meant 130 = .ok (.istore 8, 2) := by decide +kernel
theorem dX12_meant_132 : decode cX12_meant 132 = .ok (.iinc 9 1, 3) := by decide +kernel
theorem dX12_meant_135 : decode cX12_meant 135 = .ok (.goto (-102), 3) := by decide +kernel
theorem dX12_meant_138 : decode cX12_meant 138 = .ok (.iload 7, 2) := by decide +kernel
theorem dX12_meant_140 : decode cX12_meant 140 = .ok (.ireturn, 1) := by decide +kernel
theorem dX12_meet_0 : decode cX12_meet 0 = .ok (.iload_n 1, 1) := by decide +kernel
theorem dX12_meet_1 : decode cX12_meet 1 = .ok (.i2l, 1) := by decide +kernel
theorem dX12_meet_2 : decode cX12_meet 2 = .ok (.ldc2_w 60, 3) := by decide +kernel
theorem dX12_meet_5 : decode cX12_meet 5 = .ok (.ldc2_w 62, 3) := by decide +kernel
theorem dX12_meet_8 : decode cX12_meet 8 = .ok (.invokestatic 56, 3) := by decide +kernel
theorem dX12_meet_11 : decode cX12_meet 11 = .ok (.ifCond .eq 16, 3) := by decide +kernel
theorem dX12_meet_14 : decode cX12_meet 14 = .ok (.iload_n 2, 1) := by decide +kernel
theorem dX12_meet_15 : decode cX12_meet 15 = .ok (.i2l, 1) := by decide +kernel
theorem dX12_meet_16 : decode cX12_meet 16 = .ok (.lconst 0, 1) := by decide +kernel
theorem dX12_meet_17 : decode cX12_meet 17 = .ok (.iload_n 1, 1) := by decide +kernel
theorem dX12_meet_18 : decode cX12_meet 18 = .ok (.iconst 1, 1) := by decide +kernel
theorem dX12_meet_19 : decode cX12_meet 19 = .ok (.isub, 1) := by decide +kernel
theorem dX12_meet_20 : decode cX12_meet 20 = .ok (.i2l, 1) := by decide +kernel
theorem dX12_meet_21 : decode cX12_meet 21 = .ok (.invokestatic 56, 3) := by decide +kernel
theorem dX12_meet_24 : decode cX12_meet 24 = .ok (.ifCond .ne 10, 3) := by decide +kernel
theorem dX12_meet_27 : decode cX12_meet 27 = .ok (.aload_n 0, 1) := by decide +kernel
theorem dX12_meet_28 : decode cX12_meet 28 = .ok (.bipush (-2), 2) := by decide +kernel
theorem dX12_meet_30 : decode cX12_meet 30 = .ok (.invokevirtual 64, 3) := by decide +kernel
theorem dX12_meet_33 : decode cX12_meet 33 = .ok (.ireturn, 1) := by decide +kernel
theorem dX12_meet_34 : decode cX12_meet 34 = .ok (.iload_n 2, 1) := by decide +kernel
theorem dX12_meet_35 : decode cX12_meet 35 = .ok (.istore_n 3, 1) := by decide +kernel
theorem dX12_meet_36 : decode cX12_meet 36 = .ok (.iload_n 3, 1) := by decide +kernel
theorem dX12_meet_37 : decode cX12_meet 37 = .ok (.iload_n 1, 1) := by decide +kernel
theorem dX12_meet_38 : decode cX12_meet 38 = .ok (.aload_n 0, 1) := by decide +kernel
theorem dX12_meet_39 : decode cX12_meet 39 = .ok (.getfield 7, 3) := by decide +kernel
theorem dX12_meet_42 : decode cX12_meet 42 = .ok (.iconst 0, 1) := by decide +kernel
theorem dX12_meet_43 : decode cX12_meet 43 = .ok (.iaload, 1) := by decide +kernel
theorem dX12_meet_44 : decode cX12_meet 44 = .ok (.imul, 1) := by decide +kernel
theorem dX12_meet_45 : decode cX12_meet 45 = .ok (.if_icmp .ge 25, 3) := by decide +kernel
theorem dX12_meet_48 : decode cX12_meet 48 = .ok (.aload_n 0, 1) := by decide +kernel
theorem dX12_meet_49 : decode cX12_meet 49 = .ok (.aload_n 0, 1) := by decide +kernel
theorem dX12_meet_50 : decode cX12_meet 50 = .ok (.getfield 7, 3) := by decide +kernel
theorem dX12_meet_53 : decode cX12_meet 53 = .ok (.iconst 1, 1) := by decide +kernel
theorem dX12_meet_54 : decode cX12_meet 54 = .ok (.iaload, 1) := by decide +kernel
theorem dX12_meet_55 : decode cX12_meet 55 = .ok (.iload_n 3, 1) := by decide +kernel
theorem dX12_meet_56 : decode cX12_meet 56 = .ok (.iadd, 1) := by decide +kernel
theorem dX12_meet_57 : decode cX12_meet 57 = .ok (.invokevirtual 93, 3) := by decide +kernel
theorem dX12_meet_60 : decode cX12_meet 60 = .ok (.ifCond .ne 10, 3) := by decide +kernel
theorem dX12_meet_63 : decode cX12_meet 63 = .ok (.iload_n 3, 1) := by decide +kernel
theorem dX12_meet_64 : decode cX12_meet 64 = .ok (.iload_n 1, 1) := by decide +kernel
theorem dX12_meet_65 : decode cX12_meet 65 = .ok (.iadd, 1) := by decide +kernel
theorem dX12_meet_66 : decode cX12_meet 66 = .ok (.istore_n 3, 1) := by decide +kernel
theorem dX12_meet_67 : decode cX12_meet 67 = .ok (.goto (-31), 3) := by decide +kernel
theorem dX12_meet_70 : decode cX12_meet 70 = .ok (.iload_n 3, 1) := by decide +kernel
theorem dX12_meet_71 : decode cX12_meet 71 = .ok (.iload_n 1, 1) := by decide +kernel
theorem dX12_meet_72 : decode cX12_meet 72 = .ok (.aload_n 0, 1) := by decide +kernel
theorem dX12_meet_73 : decode cX12_meet 73 = .ok (.getfield 7, 3) := by decide +kernel
theorem dX12_meet_76 : decode cX12_meet 76 = .ok (.iconst 0, 1) := by decide +kernel
theorem dX12_meet_77 : decode cX12_meet 77 = .ok (.iaload, 1) := by decide +kernel
theorem dX12_meet_78 : decode cX12_meet 78 = .ok (.imul, 1) := by decide +kernel
theorem dX12_meet_79 : decode cX12_meet 79 = .ok (.if_icmp .ge 7, 3) := by decide +kernel
theorem dX12_meet_82 : decode cX12_meet 82 = .ok (.iload_n 3, 1) := by decide +kernel
theorem dX12_meet_83 : decode cX12_meet 83 = .ok (.goto 4, 3) := by decide +kernel
theorem dX12_meet_86 : decode cX12_meet 86 = .ok (.iconst (-1), 1) := by decide +kernel
theorem dX12_meet_87 : decode cX12_meet 87 = .ok (.ireturn, 1) := by decide +kernel
theorem dX12_type_0 : decode cX12_type 0 = .ok (.iload_n 1, 1) := by decide +kernel
theorem dX12_type_1 : decode cX12_type 1 = .ok (.i2l, 1) := by decide +kernel
theorem dX12_type_2 : decode cX12_type 2 = .ok (.lconst 0, 1) := by decide +kernel
theorem dX12_type_3 : decode cX12_type 3 = .ok (.ldc2_w 237, 3) := by decide +kernel
theorem dX12_type_6 : decode cX12_type 6 = .ok (.invokestatic 56, 3) := by decide +kernel
theorem dX12_type_9 : decode cX12_type 9 = .ok (.ifCond .ne 10, 3) := by decide +kernel
theorem dX12_type_12 : decode cX12_type 12 = .ok (.aload_n 0, 1) := by decide +kernel
theorem dX12_type_13 : decode cX12_type 13 = .ok (.bipush (-2), 2) := by decide +kernel
theorem dX12_type_15 : decode cX12_type 15 = .ok (.invokevirtual 64, 3) := by decide +kernel
theorem dX12_type_18 : decode cX12_type 18 = .ok (.ireturn, 1) := by decide +kernel
theorem dX12_type_19 : decode cX12_type 19 = .ok (.aload_n 0, 1) := by decide +kernel
theorem dX12_type_20 : decode cX12_type 20 = .ok (.getfield 239, 3) := by decide +kernel
theorem dX12_type_23 : decode cX12_type 23 = .ok (.sipush 150, 3) := by decide +kernel
theorem dX12_type_26 : decode cX12_type 26 = .ok (.if_icmp .ne 8, 3) := by decide +kernel
theorem dX12_type_29 : decode cX12_type 29 = .ok (.aload_n 0, 1) := by decide +kernel
theorem dX12_type_30 : decode cX12_type 30 = .ok (.invokevirtual 78, 3) := by decide +kernel
theorem dX12_type_33 : decode cX12_type 33 = .ok (.ireturn, 1) := by decide +kernel
theorem dX12_type_34 : decode cX12_type 34 = .ok (.aload_n 0, 1) := by decide +kernel
theorem dX12_type_35 : decode cX12_type 35 = .ok (.getfield 39, 3) := by decide +kernel
theorem dX12_type_38 : decode cX12_type 38 = .ok (.aload_n 0, 1) := by decide +kernel
theorem dX12_type_39 : decode cX12_type 39 = .ok (.getfield 239, 3) := by decide +kernel
theorem dX12_type_42 : decode cX12_type 42 = .ok (.iload_n 1, 1) := by decide +kernel
theorem dX12_type_43 : decode cX12_type 43 = .ok (.iastore, 1) := by decide +kernel
theorem dX12_type_44 : decode cX12_type 44 = .ok (.aload_n 0, 1) := by decide +kernel
theorem dX12_type_45 : decode cX12_type 45 = .ok (.dup, 1) := by decide +kernel
theorem dX12_type_46 : decode cX12_type 46 = .ok (.getfield 239, 3) := by decide +kernel
theorem dX12_type_49 : decode cX12_type 49 = .ok (.iconst 1, 1) := by decide +kernel
theorem dX12_type_50 : decode cX12_type 50 = .ok (.iadd, 1) := by decide +kernel
theorem dX12_type_51 : decode cX12_type 51 = .ok (.putfield 239, 3) := by decide +kernel
theorem dX12_type_54 : decode cX12_type 54 = .ok (.aload_n 0, 1) := by decide +kernel
theorem dX12_type_55 : decode cX12_type 55 = .ok (.getfield 239, 3) := by decide +kernel
theorem dX12_type_58 : decode cX12_type 58 = .ok (.ireturn, 1) := by decide +kernel
theorem dX12_clear_0 : decode cX12_clear 0 = .ok (.aload_n 0, 1) := by decide +kernel
theorem dX12_clear_1 : decode cX12_clear 1 = .ok (.getfield 239, 3) := by decide +kernel
theorem dX12_clear_4 : decode cX12_clear 4 = .ok (.istore_n 1, 1) := by decide +kernel
theorem dX12_clear_5 : decode cX12_clear 5 = .ok (.aload_n 0, 1) := by decide +kernel
theorem dX12_clear_6 : decode cX12_clear 6 = .ok (.iconst 0, 1) := by decide +kernel
theorem dX12_clear_7 : decode cX12_clear 7 = .ok (.putfield 239, 3) := by decide +kernel
theorem dX12_clear_10 : decode cX12_clear 10 = .ok (.iload_n 1, 1) := by decide +kernel
theorem dX12_clear_11 : decode cX12_clear 11 = .ok (.ireturn, 1) := by decide +kernel
theorem dX12_isSmall_0 : decode cX12_isSmall 0 = .ok (.iload_n 0, 1) := by decide +kernel
theorem dX12_isSmall_1 : decode cX12_isSmall 1 = .ok (.i2l, 1) := by decide +kernel
theorem dX12_isSmall_2 : decode cX12_isSmall 2 = .ok (.ldc2_w 243, 3) := by decide +kernel
theorem dX12_isSmall_5 : decode cX12_isSmall 5 = .ok (.ldc2_w 245, 3) := by decide +kernel
theorem dX12_isSmall_8 : decode cX12_isSmall 8 = .ok (.invokestatic 56, 3) := by decide +kernel
theorem dX12_isSmall_11 : decode cX12_isSmall 11 = .ok (.ireturn, 1) := by decide +kernel
theorem dX12_isFigure_0 : decode cX12_isFigure 0 = .ok (.iload_n 0, 1) := by decide +kernel
theorem dX12_isFigure_1 : decode cX12_isFigure 1 = .ok (.i2l, 1) := by decide +kernel
theorem dX12_isFigure_2 : decode cX12_isFigure 2 = .ok (.ldc2_w 247, 3) := by decide +kernel
theorem dX12_isFigure_5 : decode cX12_isFigure 5 = .ok (.ldc2_w 249, 3) := by decide +kernel
theorem dX12_isFigure_8 : decode cX12_isFigure 8 = .ok (.invokestatic 56, 3) := by decide +kernel
theorem dX12_isFigure_11 : decode cX12_isFigure 11 = .ok (.ireturn, 1) := by decide +kernel
theorem dX12_look_0 : decode cX12_look 0 = .ok (.aload_n 0, 1) := by decide +kernel
theorem dX12_look_1 : decode cX12_look 1 = .ok (.iload_n 1, 1) := by decide +kernel
theorem dX12_look_2 : decode cX12_look 2 = .ok (.putfield 251, 3) := by decide +kernel
theorem dX12_look_5 : decode cX12_look 5 = .ok (.aload_n 0, 1) := by decide +kernel
theorem dX12_look_6 : decode cX12_look 6 = .ok (.getfield 251, 3) := by decide +kernel
theorem dX12_look_9 : decode cX12_look 9 = .ok (.aload_n 0, 1) := by decide +kernel
theorem dX12_look_10 : decode cX12_look 10 = .ok (.getfield 239, 3) := by decide +kernel
theorem dX12_look_13 : decode cX12_look 13 = .ok (.if_icmp .ge 30, 3) := by decide +kernel
theorem dX12_look_16 : decode cX12_look 16 = .ok (.aload_n 0, 1) := by decide +kernel
theorem dX12_look_17 : decode cX12_look 17 = .ok (.getfield 39, 3) := by decide +kernel
theorem dX12_look_20 : decode cX12_look 20 = .ok (.aload_n 0, 1) := by decide +kernel
theorem dX12_look_21 : decode cX12_look 21 = .ok (.getfield 251, 3) := by decide +kernel
theorem dX12_look_24 : decode cX12_look 24 = .ok (.iaload, 1) := by decide +kernel
theorem dX12_look_25 : decode cX12_look 25 = .ok (.bipush 32, 2) := by decide +kernel
theorem dX12_look_27 : decode cX12_look 27 = .ok (.if_icmp .ne 16, 3) := by decide +kernel
theorem dX12_look_30 : decode cX12_look 30 = .ok (.aload_n 0, 1) := by decide +kernel
theorem dX12_look_31 : decode cX12_look 31 = .ok (.dup, 1) := by decide +kernel
theorem dX12_look_32 : decode cX12_look 32 = .ok (.getfield 251, 3) := by decide +kernel
theorem dX12_look_35 : decode cX12_look 35 = .ok (.iconst 1, 1) := by decide +kernel
theorem dX12_look_36 : decode cX12_look 36 = .ok (.iadd, 1) := by decide +kernel
theorem dX12_look_37 : decode cX12_look 37 = .ok (.putfield 251, 3) := by decide +kernel
theorem dX12_look_40 : decode cX12_look 40 = .ok (.goto (-35), 3) := by decide +kernel
theorem dX12_look_43 : decode cX12_look 43 = .ok (.aload_n 0, 1) := by decide +kernel
theorem dX12_look_44 : decode cX12_look 44 = .ok (.iconst 0, 1) := by decide +kernel
theorem dX12_look_45 : decode cX12_look 45 = .ok (.putfield 254, 3) := by decide +kernel
theorem dX12_look_48 : decode cX12_look 48 = .ok (.aload_n 0, 1) := by decide +kernel
theorem dX12_look_49 : decode cX12_look 49 = .ok (.iconst 0, 1) := by decide +kernel
theorem dX12_look_50 : decode cX12_look 50 = .ok (.putfield 257, 3) := by decide +kernel
theorem dX12_look_53 : decode cX12_look 53 = .ok (.aload_n 0, 1) := by decide +kernel
theorem dX12_look_54 : decode cX12_look 54 = .ok (.iconst 0, 1) := by decide +kernel
theorem dX12_look_55 : decode cX12_look 55 = .ok (.putfield 260, 3) := by decide +kernel
theorem dX12_look_58 : decode cX12_look 58 = .ok (.aload_n 0, 1) := by decide +kernel
theorem dX12_look_59 : decode cX12_look 59 = .ok (.getfield 251, 3) := by decide +kernel
theorem dX12_look_62 : decode cX12_look 62 = .ok (.aload_n 0, 1) := by decide +kernel
theorem dX12_look_63 : decode cX12_look 63 = .ok (.getfield 239, 3) := by decide +kernel
theorem dX12_look_66 : decode cX12_look 66 = .ok (.if_icmp .ne 4, 3) := by decide +kernel
theorem dX12_look_69 : decode cX12_look 69 = .ok (.return_, 1) := by decide +kernel
theorem dX12_look_70 : decode cX12_look 70 = .ok (.aload_n 0, 1) := by decide +kernel
theorem dX12_look_71 : decode cX12_look 71 = .ok (.getfield 39, 3) := by decide +kernel
theorem dX12_look_74 : decode cX12_look 74 = .ok (.aload_n 0, 1) := by decide +kernel
theorem dX12_look_75 : decode cX12_look 75 = .ok (.getfield 251, 3) := by decide +kernel
theorem dX12_look_78 : decode cX12_look 78 = .ok (.iaload, 1) := by decide +kernel
theorem dX12_look_79 : decode cX12_look 79 = .ok (.istore_n 2, 1) := by decide +kernel
theorem dX12_look_80 : decode cX12_look 80 = .ok (.aload_n 0, 1) := by decide +kernel
theorem dX12_look_81 : decode cX12_look 81 = .ok (.iload_n 2, 1) := by decide +kernel
theorem dX12_look_82 : decode cX12_look 82 = .ok (.invokestatic 263, 3) := by decide +kernel
theorem dX12_look_85 : decode cX12_look 85 = .ok (.ifCond .eq 7, 3) := by decide +kernel
theorem dX12_look_88 : decode cX12_look 88 = .ok (.iconst 1, 1) := by decide +kernel
theorem dX12_look_89 : decode cX12_look 89 = .ok (.goto 25, 3) := by decide +kernel
theorem dX12_look_92 : decode cX12_look 92 = .ok (.iload_n 2, 1) := by decide +kernel
theorem dX12_look_93 : decode cX12_look 93 = .ok (.invokestatic 266, 3) := by decide +kernel
theorem dX12_look_96 : decode cX12_look 96 = .ok (.ifCond .eq 7, 3) := by decide +kernel
theorem dX12_look_99 : decode cX12_look 99 = .ok (.iconst 2, 1) := by decide +kernel
theorem dX12_look_100 : decode cX12_look 100 = .ok (.goto 14, 3) := by decide +kernel
theorem dX12_look_103 : decode cX12_look 103 = .ok (.iload_n 2, 1) := by decide +kernel
theorem dX12_look_104 : decode cX12_look 104 = .ok (.bipush 59, 2) := by decide +kernel
theorem dX12_look_106 : decode cX12_look 106 = .ok (.if_icmp .ne 7, 3) := by decide +kernel
theorem dX12_look_109 : decode cX12_look 109 = .ok (.iconst 3, 1) := by decide +kernel
theorem dX12_look_110 : decode cX12_look 110 = .ok (.goto 4, 3) := by decide +kernel
theorem dX12_look_113 : decode cX12_look 113 = .ok (.iconst 4, 1) := by decide +kernel
theorem dX12_look_114 : decode cX12_look 114 = .ok (.putfield 257, 3) := by decide +kernel
theorem dX12_look_117 : decode cX12_look 117 = .ok (.aload_n 0, 1) := by decide +kernel
theorem dX12_look_118 : decode cX12_look 118 = .ok (.iconst 1, 1) := by decide +kernel
theorem dX12_look_119 : decode cX12_look 119 = .ok (.putfield 254, 3) := by decide +kernel
theorem dX12_look_122 : decode cX12_look 122 = .ok (.aload_n 0, 1) := by decide +kernel
theorem dX12_look_123 : decode cX12_look 123 = .ok (.getfield 257, 3) := by decide +kernel
theorem dX12_look_126 : decode cX12_look 126 = .ok (.iconst 3, 1) := by decide +kernel
theorem dX12_look_127 : decode cX12_look 127 = .ok (.if_icmp .ge 7, 3) := by decide +kernel
theorem dX12_look_130 : decode cX12_look 130 = .ok (.iconst 1, 1) := by decide +kernel
theorem dX12_look_131 : decode cX12_look 131 = .ok (.goto 4, 3) := by decide +kernel
theorem dX12_look_134 : decode cX12_look 134 = .ok (.iconst 0, 1) := by decide +kernel
theorem dX12_look_135 : decode cX12_look 135 = .ok (.istore_n 3, 1) := by decide +kernel
theorem dX12_look_136 : decode cX12_look 136 = .ok (.iload_n 3, 1) := by decide +kernel
theorem dX12_look_137 : decode cX12_look 137 = .ok (.ifCond .eq 78, 3) := by decide +kernel
theorem dX12_look_140 : decode cX12_look 140 = .ok (.aload_n 0, 1) := by decide +kernel
theorem dX12_look_141 : decode cX12_look 141 = .ok (.getfield 251, 3) := by decide +kernel
theorem dX12_look_144 : decode cX12_look 144 = .ok (.aload_n 0, 1) := by decide +kernel
theorem dX12_look_145 : decode cX12_look 145 = .ok (.getfield 254, 3) := by decide +kernel
theorem dX12_look_148 : decode cX12_look 148 = .ok (.iadd, 1) := by decide +kernel
theorem dX12_look_149 : decode cX12_look 149 = .ok (.aload_n 0, 1) := by decide +kernel
theorem dX12_look_150 : decode cX12_look 150 = .ok (.getfield 239, 3) := by decide +kernel
theorem dX12_look_153 : decode cX12_look 153 = .ok (.if_icmp .ge 62, 3) := by decide +kernel
theorem dX12_look_156 : decode cX12_look 156 = .ok (.aload_n 0, 1) := by decide +kernel
theorem dX12_look_157 : decode cX12_look 157 = .ok (.getfield 39, 3) := by decide +kernel
theorem dX12_look_160 : decode cX12_look 160 = .ok (.aload_n 0, 1) := by decide +kernel
theorem dX12_look_161 : decode cX12_look 161 = .ok (.getfield 251, 3) := by decide +kernel
theorem dX12_look_164 : decode cX12_look 164 = .ok (.aload_n 0, 1) := by decide +kernel
theorem dX12_look_165 : decode cX12_look 165 = .ok (.getfield 254, 3) := by decide +kernel
theorem dX12_look_168 : decode cX12_look 168 = .ok (.iadd, 1) := by decide +kernel
theorem dX12_look_169 : decode cX12_look 169 = .ok (.iaload, 1) := by decide +kernel
theorem dX12_look_170 : decode cX12_look 170 = .ok (.istore 4, 2) := by decide +kernel
theorem dX12_look_172 : decode cX12_look 172 = .ok (.aload_n 0, 1) := by decide +kernel
theorem dX12_look_173 : decode cX12_look 173 = .ok (.getfield 257, 3) := by decide +kernel
theorem dX12_look_176 : decode cX12_look 176 = .ok (.iconst 1, 1) := by decide +kernel
theorem dX12_look_177 : decode cX12_look 177 = .ok (.if_icmp .ne 11, 3) := by decide +kernel
theorem dX12_look_180 : decode cX12_look 180 = .ok (.iload 4, 2) := by decide +kernel
theorem dX12_look_182 : decode cX12_look 182 = .ok (.invokestatic 263, 3) := by decide +kernel
theorem dX12_look_185 : decode cX12_look 185 = .ok (.goto 8, 3) := by decide +kernel
theorem dX12_look_188 : decode cX12_look 188 = .ok (.iload 4, 2) := by decide +kernel
theorem dX12_look_190 : decode cX12_look 190 = .ok (.invokestatic 266, 3) := by decide +kernel
theorem dX12_look_193 : decode cX12_look 193 = .ok (.istore_n 3, 1) := by decide +kernel
theorem dX12_look_194 : decode cX12_look 194 = .ok (.aload_n 0, 1) := by decide +kernel
theorem dX12_look_195 : decode cX12_look 195 = .ok (.dup, 1) := by decide +kernel
theorem dX12_look_196 : decode cX12_look 196 = .ok (.getfield 254, 3) := by decide +kernel
theorem dX12_look_199 : decode cX12_look 199 = .ok (.iload_n 3, 1) := by decide +kernel
theorem dX12_look_200 : decode cX12_look 200 = .ok (.ifCond .eq 7, 3) := by decide +kernel
theorem dX12_look_203 : decode cX12_look 203 = .ok (.iconst 1, 1) := by decide +kernel
theorem dX12_look_204 : decode cX12_look 204 = .ok (.goto 4, 3) := by decide +kernel
theorem dX12_look_207 : decode cX12_look 207 = .ok (.iconst 0, 1) := by decide +kernel
theorem dX12_look_208 : decode cX12_look 208 = .ok (.iadd, 1) := by decide +kernel
theorem dX12_look_209 : decode cX12_look 209 = .ok (.putfield 254, 3) := by decide +kernel
theorem dX12_look_212 : decode cX12_look 212 = .ok (.goto (-76), 3) := by decide +kernel
theorem dX12_look_215 : decode cX12_look 215 = .ok (.iconst 0, 1) := by decide +kernel
theorem dX12_look_216 : decode cX12_look 216 = .ok (.istore 4, 2) := by decide +kernel
theorem dX12_look_218 : decode cX12_look 218 = .ok (.iload 4, 2) := by decide +kernel
theorem dX12_look_220 : decode cX12_look 220 = .ok (.aload_n 0, 1) := by decide +kernel
theorem dX12_look_221 : decode cX12_look 221 = .ok (.getfield 254, 3) := by decide +kernel
theorem dX12_look_224 : decode cX12_look 224 = .ok (.if_icmp .ge 50, 3) := by decide +kernel
theorem dX12_look_227 : decode cX12_look 227 = .ok (.iload 4, 2) := by decide +kernel
theorem dX12_look_229 : decode cX12_look 229 = .ok (.iconst 4, 1) := by decide +kernel
theorem dX12_look_230 : decode cX12_look 230 = .ok (.if_icmp .ge 44, 3) := by decide +kernel
theorem dX12_look_233 : decode cX12_look 233 = .ok (.aload_n 0, 1) := by decide +kernel
theorem dX12_look_234 : decode cX12_look 234 = .ok (.getfield 257, 3) := by decide +kernel
theorem dX12_look_237 : decode cX12_look 237 = .ok (.iconst 2, 1) := by decide +kernel
theorem dX12_look_238 : decode cX12_look 238 = .ok (.if_icmp .ne 36, 3) := by decide +kernel
theorem dX12_look_241 : decode cX12_look 241 = .ok (.aload_n 0, 1) := by decide +kernel
theorem dX12_look_242 : decode cX12_look 242 = .ok (.bipush 10, 2) := by decide +kernel
theorem dX12_look_244 : decode cX12_look 244 = .ok (.aload_n 0, 1) := by decide +kernel
theorem dX12_look_245 : decode cX12_look 245 = .ok (.getfield 260, 3) := by decide +kernel
theorem dX12_look_248 : decode cX12_look 248 = .ok (.imul, 1) := by decide +kernel
theorem dX12_look_249 : decode cX12_look 249 = .ok (.aload_n 0, 1) := by decide +kernel
theorem dX12_look_250 : decode cX12_look 250 = .ok (.getfield 39, 3) := by decide +kernel
theorem dX12_look_253 : decode cX12_look 253 = .ok (.aload_n 0, 1) := by decide +kernel
theorem dX12_look_254 : decode cX12_look 254 = .ok (.getfield 251, 3) := by decide +kernel
theorem dX12_look_257 : decode cX12_look 257 = .ok (.iload 4, 2) := by decide +kernel
theorem dX12_look_259 : decode cX12_look 259 = .ok (.iadd, 1) := by decide +kernel
theorem dX12_look_260 : decode cX12_look 260 = .ok (.iaload, 1) := by decide +kernel
theorem dX12_look_261 : decode cX12_look 261 = .ok (.iadd, 1) := by decide +kernel
theorem dX12_look_262 : decode cX12_look 262 = .ok (.bipush 48, 2) := by decide +kernel
theorem dX12_look_264 : decode cX12_look 264 = .ok (.isub, 1) := by decide +kernel
theorem dX12_look_265 : decode cX12_look 265 = .ok (.putfield 260, 3) := by decide +kernel
theorem dX12_look_268 : decode cX12_look 268 = .ok (.iinc 4 1, 3) := by decide +kernel
theorem dX12_look_271 : decode cX12_look 271 = .ok (.goto (-53), 3) := by decide +kernel
theorem dX12_look_274 : decode cX12_look 274 = .ok (.aload_n 0, 1) := by decide +kernel
theorem dX12_look_275 : decode cX12_look 275 = .ok (.aload_n 0, 1) := by decide +kernel
theorem dX12_look_276 : decode cX12_look 276 = .ok (.getfield 257, 3) := by decide +kernel
theorem dX12_look_279 : decode cX12_look 279 = .ok (.iconst 2, 1) := by decide +kernel
theorem dX12_look_280 : decode cX12_look 280 = .ok (.if_icmp .ne 15, 3) := by decide +kernel
theorem dX12_look_283 : decode cX12_look 283 = .ok (.aload_n 0, 1) := by decide +kernel
theorem dX12_look_284 : decode cX12_look 284 = .ok (.getfield 254, 3) := by decide +kernel
theorem dX12_look_287 : decode cX12_look 287 = .ok (.iconst 4, 1) := by decide +kernel
theorem dX12_look_288 : decode cX12_look 288 = .ok (.if_icmp .le 7, 3) := by decide +kernel
theorem dX12_look_291 : decode cX12_look 291 = .ok (.iconst 4, 1) := by decide +kernel
theorem dX12_look_292 : decode cX12_look 292 = .ok (.goto 7, 3) := by decide +kernel
theorem dX12_look_295 : decode cX12_look 295 = .ok (.aload_n 0, 1) := by decide +kernel
theorem dX12_look_296 : decode cX12_look 296 = .ok (.getfield 257, 3) := by decide +kernel
theorem dX12_look_299 : decode cX12_look 299 = .ok (.putfield 257, 3) := by decide +kernel
theorem dX12_look_302 : decode cX12_look 302 = .ok (.return_, 1) := by decide +kernel
theorem dX12_goOn_0 : decode cX12_goOn 0 = .ok (.aload_n 0, 1) := by decide +kernel
theorem dX12_goOn_1 : decode cX12_goOn 1 = .ok (.aload_n 0, 1) := by decide +kernel
theorem dX12_goOn_2 : decode cX12_goOn 2 = .ok (.getfield 251, 3) := by decide +kernel
theorem dX12_goOn_5 : decode cX12_goOn 5 = .ok (.aload_n 0, 1) := by decide +kernel
theorem dX12_goOn_6 : decode cX12_goOn 6 = .ok (.getfield 254, 3) := by decide +kernel
theorem dX12_goOn_9 : decode cX12_goOn 9 = .ok (.iadd, 1) := by decide +kernel
theorem dX12_goOn_10 : decode cX12_goOn 10 = .ok (.invokevirtual 269, 3) := by decide +kernel
theorem dX12_goOn_13 : decode cX12_goOn 13 = .ok (.return_, 1) := by decide +kernel
theorem dX12_isName_0 : decode cX12_isName 0 = .ok (.iload 4, 2) := by decide +kernel
theorem dX12_isName_2 : decode cX12_isName 2 = .ok (.ifCond .ne 7, 3) := by decide +kernel
theorem dX12_isName_5 : decode cX12_isName 5 = .ok (.iconst 3, 1) := by decide +kernel
theorem dX12_isName_6 : decode cX12_isName 6 = .ok (.goto 23, 3) := by decide +kernel
theorem dX12_isName_9 : decode cX12_isName 9 = .ok (.iload 5, 2) := by decide +kernel
theorem dX12_isName_11 : decode cX12_isName 11 = .ok (.ifCond .ne 7, 3) := by decide +kernel
theorem dX12_isName_14 : decode cX12_isName 14 = .ok (.iconst 4, 1) := by decide +kernel
theorem dX12_isName_15 : decode cX12_isName 15 = .ok (.goto 14, 3) := by decide +kernel
theorem dX12_isName_18 : decode cX12_isName 18 = .ok (.iload 6, 2) := by decide +kernel
theorem dX12_isName_20 : decode cX12_isName 20 = .ok (.ifCond .ne 7, 3) := by decide +kernel
theorem dX12_isName_23 : decode cX12_isName 23 = .ok (.iconst 5, 1) := by decide +kernel
theorem dX12_isName_24 : decode cX12_isName 24 = .ok (.goto 5, 3) := by decide +kernel
theorem dX12_isName_27 : decode cX12_isName 27 = .ok (.bipush 6, 2) := by decide +kernel
theorem dX12_isName_29 : decode cX12_isName 29 = .ok (.istore 7, 2) := by decide +kernel
theorem dX12_isName_31 : decode cX12_isName 31 = .ok (.aload_n 0, 1) := by decide +kernel
theorem dX12_isName_32 : decode cX12_isName 32 = .ok (.getfield 257, 3) := by decide +kernel
theorem dX12_isName_35 : decode cX12_isName 35 = .ok (.iconst 1, 1) := by decide +kernel
theorem dX12_isName_36 : decode cX12_isName 36 = .ok (.if_icmp .ne 16, 3) := by decide +kernel
theorem dX12_isName_39 : decode cX12_isName 39 = .ok (.aload_n 0, 1) := by decide +kernel
theorem dX12_isName_40 : decode cX12_isName 40 = .ok (.getfield 254, 3) := by decide +kernel
theorem dX12_isName_43 : decode cX12_isName 43 = .ok (.iload 7, 2) := by decide +kernel
theorem dX12_isName_45 : decode cX12_isName 45 = .ok (.if_icmp .ne 7, 3) := by decide +kernel
theorem dX12_isName_48 : decode cX12_isName 48 = .ok (.iconst 1, 1) := by decide +kernel
theorem dX12_isName_49 : decode cX12_isName 49 = .ok (.goto 4, 3) := by decide +kernel
theorem dX12_isName_52 : decode cX12_isName 52 = .ok (.iconst 0, 1) := by decide +kernel
theorem dX12_isName_53 : decode cX12_isName 53 = .ok (.istore 8, 2) := by decide +kernel
theorem dX12_isName_55 : decode cX12_isName 55 = .ok (.iconst 0, 1) := by decide +kernel
theorem dX12_isName_56 : decode cX12_isName 56 = .ok (.istore 9, 2) := by decide +kernel
theorem dX12_isName_58 : decode cX12_isName 58 = .ok (.iload 9, 2) := by decide +kernel
theorem dX12_isName_60 : decode cX12_isName 60 = .ok (.iload 7, 2) := by decide +kernel
theorem dX12_isName_62 : decode cX12_isName 62 = .ok (.if_icmp .ge 89, 3) := by decide +kernel
theorem dX12_isName_65 : decode cX12_isName 65 = .ok (.iload 8, 2) := by decide +kernel
theorem dX12_isName_67 : decode cX12_isName 67 = .ok (.ifCond .eq 84, 3) := by decide +kernel
theorem dX12_isName_70 : decode cX12_isName 70 = .ok (.aload_n 0, 1) := by decide +kernel
theorem dX12_isName_71 : decode cX12_isName 71 = .ok (.getfield 39, 3) := by decide +kernel
theorem dX12_isName_74 : decode cX12_isName 74 = .ok (.aload_n 0, 1) := by decide +kernel
theorem dX12_isName_75 : decode cX12_isName 75 = .ok (.getfield 251, 3) := by decide +kernel
theorem dX12_isName_78 : decode cX12_isName 78 = .ok (.iload 9, 2) := by decide +kernel
theorem dX12_isName_80 : decode cX12_isName 80 = .ok (.iadd, 1) := by decide +kernel
theorem dX12_isName_81 : decode cX12_isName 81 = .ok (.iaload, 1) := by decide +kernel
theorem dX12_isName_82 : decode cX12_isName 82 = .ok (.iload 9, 2) := by decide +kernel
theorem dX12_isName_84 : decode cX12_isName 84 = .ok (.ifCond .ne 7, 3) := by decide +kernel
theorem dX12_isName_87 : decode cX12_isName 87 = .ok (.iload_n 1, 1) := by decide +kernel
theorem dX12_isName_88 : decode cX12_isName 88 = .ok (.goto 47, 3) := by decide +kernel
theorem dX12_isName_91 : decode cX12_isName 91 = .ok (.iload 9, 2) := by decide +kernel
theorem dX12_isName_93 : decode cX12_isName 93 = .ok (.iconst 1, 1) := by decide +kernel
theorem dX12_isName_94 : decode cX12_isName 94 = .ok (.if_icmp .ne 7, 3) := by decide +kernel
theorem dX12_isName_97 : decode cX12_isName 97 = .ok (.iload_n 2, 1) := by decide +kernel
theorem dX12_isName_98 : decode cX12_isName 98 = .ok (.goto 37, 3) := by decide +kernel
theorem dX12_isName_101 : decode cX12_isName 101 = .ok (.iload 9, 2) := by decide +kernel
theorem dX12_isName_103 : decode cX12_isName 103 = .ok (.iconst 2, 1) := by decide +kernel
theorem dX12_isName_104 : decode cX12_isName 104 = .ok (.if_icmp .ne 7, 3) := by decide +kernel
theorem dX12_isName_107 : decode cX12_isName 107 = .ok (.iload_n 3, 1) := by decide +kernel
theorem dX12_isName_108 : decode cX12_isName 108 = .ok (.goto 27, 3) := by decide +kernel
theorem dX12_isName_111 : decode cX12_isName 111 = .ok (.iload 9, 2) := by decide +kernel
theorem dX12_isName_113 : decode cX12_isName 113 = .ok (.iconst 3, 1) := by decide +kernel
theorem dX12_isName_114 : decode cX12_isName 114 = .ok (.if_icmp .ne 8, 3) := by decide +kernel
theorem dX12_isName_117 : decode cX12_isName 117 = .ok (.iload 4, 2) := by decide +kernel
theorem dX12_isName_119 : decode cX12_isName 119 = .ok (.goto 16, 3) := by decide +kernel
theorem dX12_isName_122 : decode cX12_isName 122 = .ok (.iload 9, 2) := by decide +kernel
theorem dX12_isName_124 : decode cX12_isName 124 = .ok (.iconst 4, 1) := by decide +kernel
theorem dX12_isName_125 : decode cX12_isName 125 = .ok (.if_icmp .ne 8, 3) := by decide +kernel
theorem dX12_isName_128 : decode cX12_isName 128 = .ok (.iload 5, 2) := by decide +kernel
theorem dX12_isName_130 : decode cX12_isName 130 = .ok (.goto 5, 3) := by decide +kernel
theorem dX12_isName_133 : decode cX12_isName 133 = .ok (.iload 6, 2) := by decide +kernel
theorem dX12_isName_135 : decode cX12_isName 135 = .ok (.if_icmp .ne 7, 3) := by decide +kernel
theorem dX12_isName_138 : decode cX12_isName 138 = .ok (.iconst 1, 1) := by decide +kernel
theorem dX12_isName_139 : decode cX12_isName 139 = .ok (.goto 4, 3) := by decide +kernel
theorem dX12_isName_142 : decode cX12_isName 142 = .ok (.iconst 0, 1) := by decide +kernel
theorem dX12_isName_143 : decode cX12_isName 143 = .ok (.istore 8, 2) := by decide +kernel
theorem dX12_isName_145 : decode cX12_isName 145 = .ok (.iinc 9 1, 3) := by decide +kernel
theorem dX12_isName_148 : decode cX12_isName 148 = .ok (.goto (-90), 3) := by decide +kernel
theorem dX12_isName_151 : decode cX12_isName 151 = .ok (.iload 8, 2) := by decide +kernel
theorem dX12_isName_153 : decode cX12_isName 153 = .ok (.ireturn, 1) := by decide +kernel
theorem dX12_takes_0 : decode cX12_takes 0 = .ok (.aload_n 0, 1) := by decide +kernel
theorem dX12_takes_1 : decode cX12_takes 1 = .ok (.getfield 257, 3) := by decide +kernel
theorem dX12_takes_4 : decode cX12_takes 4 = .ok (.iconst 2, 1) := by decide +kernel
theorem dX12_takes_5 : decode cX12_takes 5 = .ok (.if_icmp .ne 18, 3) := by decide +kernel
theorem dX12_takes_8 : decode cX12_takes 8 = .ok (.aload_n 0, 1) := by decide +kernel
theorem dX12_takes_9 : decode cX12_takes 9 = .ok (.getfield 260, 3) := by decide +kernel
theorem dX12_takes_12 : decode cX12_takes 12 = .ok (.i2l, 1) := by decide +kernel
theorem dX12_takes_13 : decode cX12_takes 13 = .ok (.iload_n 2, 1) := by decide +kernel
theorem dX12_takes_14 : decode cX12_takes 14 = .ok (.i2l, 1) := by decide +kernel
theorem dX12_takes_15 : decode cX12_takes 15 = .ok (.iload_n 3, 1) := by decide +kernel
theorem dX12_takes_16 : decode cX12_takes 16 = .ok (.i2l, 1) := by decide +kernel
theorem dX12_takes_17 : decode cX12_takes 17 = .ok (.invokestatic 56, 3) := by decide +kernel
theorem dX12_takes_20 : decode cX12_takes 20 = .ok (.ifCond .ne 5, 3) := by decide +kernel
theorem dX12_takes_23 : decode cX12_takes 23 = .ok (.iconst 0, 1) := by decide +kernel
theorem dX12_takes_24 : decode cX12_takes 24 = .ok (.ireturn, 1) := by decide +kernel
theorem dX12_takes_25 : decode cX12_takes 25 = .ok (.aload_n 0, 1) := by decide +kernel
theorem dX12_takes_26 : decode cX12_takes 26 = .ok (.getfield 45, 3) := by decide +kernel
theorem dX12_takes_29 : decode cX12_takes 29 = .ok (.iload_n 1, 1) := by decide +kernel
theorem dX12_takes_30 : decode cX12_takes 30 = .ok (.aload_n 0, 1) := by decide +kernel
theorem dX12_takes_31 : decode cX12_takes 31 = .ok (.getfield 260, 3) := by decide +kernel
theorem dX12_takes_34 : decode cX12_takes 34 = .ok (.iastore, 1) := by decide +kernel
theorem dX12_takes_35 : decode cX12_takes 35 = .ok (.aload_n 0, 1) := by decide +kernel
theorem dX12_takes_36 : decode cX12_takes 36 = .ok (.invokevirtual 272, 3) := by decide +kernel
theorem dX12_takes_39 : decode cX12_takes 39 = .ok (.iconst 1, 1) := by decide +kernel
theorem dX12_takes_40 : decode cX12_takes 40 = .ok (.ireturn, 1) := by decide +kernel
theorem dX12_readsFirst_0 : decode cX12_readsFirst 0 = .ok (.aload_n 0, 1) := by decide +kernel
theorem dX12_readsFirst_1 : decode cX12_readsFirst 1 = .ok (.bipush 121, 2) := by decide +kernel
theorem dX12_readsFirst_3 : decode cX12_readsFirst 3 = .ok (.bipush 101, 2) := by decide +kernel
theorem dX12_readsFirst_5 : decode cX12_readsFirst 5 = .ok (.bipush 97, 2) := by decide +kernel
theorem dX12_readsFirst_7 : decode cX12_readsFirst 7 = .ok (.bipush 114, 2) := by decide +kernel
theorem dX12_readsFirst_9 : decode cX12_readsFirst 9 = .ok (.iconst 0, 1) := by decide +kernel
theorem dX12_readsFirst_10 : decode cX12_readsFirst 10 = .ok (.iconst 0, 1) := by decide +kernel
theorem dX12_readsFirst_11 : decode cX12_readsFirst 11 = .ok (.invokevirtual 275, 3) := by decide +kernel
theorem dX12_readsFirst_14 : decode cX12_readsFirst 14 = .ok (.ifCond .ne 5, 3) := by decide +kernel
theorem dX12_readsFirst_17 : decode cX12_readsFirst 17 = .ok (.iconst 0, 1) := by decide +kernel
theorem dX12_readsFirst_18 : decode cX12_readsFirst 18 = .ok (.ireturn, 1) := by decide +kernel
theorem dX12_readsFirst_19 : decode cX12_readsFirst 19 = .ok (.aload_n 0, 1) := by decide +kernel
theorem dX12_readsFirst_20 : decode cX12_readsFirst 20 = .ok (.invokevirtual 272, 3) := by decide +kernel
theorem dX12_readsFirst_23 : decode cX12_readsFirst 23 = .ok (.aload_n 0, 1) := by decide +kernel
theorem dX12_readsFirst_24 : decode cX12_readsFirst 24 = .ok (.iconst 0, 1) := by decide +kernel
theorem dX12_readsFirst_25 : decode cX12_readsFirst 25 = .ok (.iconst 2, 1) := by decide +kernel
theorem dX12_readsFirst_26 : decode cX12_readsFirst 26 = .ok (.bipush 70, 2) := by decide +kernel
theorem dX12_readsFirst_28 : decode cX12_readsFirst 28 = .ok (.invokevirtual 278, 3) := by decide +kernel
theorem dX12_readsFirst_31 : decode cX12_readsFirst 31 = .ok (.istore_n 1, 1) := by decide +kernel
theorem dX12_readsFirst_32 : decode cX12_readsFirst 32 = .ok (.aload_n 0, 1) := by decide +kernel
theorem dX12_readsFirst_33 : decode cX12_readsFirst 33 = .ok (.getfield 42, 3) := by decide +kernel
theorem dX12_readsFirst_36 : decode cX12_readsFirst 36 = .ok (.iload_n 1, 1) := by decide +kernel
theorem dX12_readsFirst_37 : decode cX12_readsFirst 37 = .ok (.ifCond .eq 12, 3) := by decide +kernel
theorem dX12_readsFirst_40 : decode cX12_readsFirst 40 = .ok (.aload_n 0, 1) := by decide +kernel
theorem dX12_readsFirst_41 : decode cX12_readsFirst 41 = .ok (.getfield 45, 3) := by decide +kernel
theorem dX12_readsFirst_44 : decode cX12_readsFirst 44 = .ok (.iconst 0, 1) := by decide +kernel
theorem dX12_readsFirst_45 : decode cX12_readsFirst 45 = .ok (.iaload, 1) := by decide +kernel
theorem dX12_readsFirst_46 : decode cX12_readsFirst 46 = .ok (.goto 4, 3) := by decide +kernel
theorem dX12_readsFirst_49 : decode cX12_readsFirst 49 = .ok (.iconst 2, 1) := by decide +kernel
theorem dX12_readsFirst_50 : decode cX12_readsFirst 50 = .ok (.invokestatic 48, 3) := by decide +kernel
theorem dX12_readsFirst_53 : decode cX12_readsFirst 53 = .ok (.iload_n 1, 1) := by decide +kernel
theorem dX12_readsFirst_54 : decode cX12_readsFirst 54 = .ok (.ifCond .eq 15, 3) := by decide +kernel
theorem dX12_readsFirst_57 : decode cX12_readsFirst 57 = .ok (.aload_n 0, 1) := by decide +kernel
theorem dX12_readsFirst_58 : decode cX12_readsFirst 58 = .ok (.getfield 257, 3) := by decide +kernel
theorem dX12_readsFirst_61 : decode cX12_readsFirst 61 = .ok (.iconst 3, 1) := by decide +kernel
theorem dX12_readsFirst_62 : decode cX12_readsFirst 62 = .ok (.if_icmp .ne 7, 3) := by decide +kernel
theorem dX12_readsFirst_65 : decode cX12_readsFirst 65 = .ok (.iconst 1, 1) := by decide +kernel
theorem dX12_readsFirst_66 : decode cX12_readsFirst 66 = .ok (.goto 4, 3) := by decide +kernel
theorem dX12_readsFirst_69 : decode cX12_readsFirst 69 = .ok (.iconst 0, 1) := by decide +kernel
theorem dX12_readsFirst_70 : decode cX12_readsFirst 70 = .ok (.ireturn, 1) := by decide +kernel
theorem dX12_lastFamily_0 : decode cX12_lastFamily 0 = .ok (.aload_n 0, 1) := by decide +kernel
theorem dX12_lastFamily_1 : decode cX12_lastFamily 1 = .ok (.getfield 42, 3) := by decide +kernel
theorem dX12_lastFamily_4 : decode cX12_lastFamily 4 = .ok (.bipush 6, 2) := by decide +kernel
theorem dX12_lastFamily_6 : decode cX12_lastFamily 6 = .ok (.iaload, 1) := by decide +kernel
theorem dX12_lastFamily_7 : decode cX12_lastFamily 7 = .ok (.iconst 1, 1) := by decide +kernel
theorem dX12_lastFamily_8 : decode cX12_lastFamily 8 = .ok (.isub, 1) := by decide +kernel
theorem dX12_lastFamily_9 : decode cX12_lastFamily 9 = .ok (.ireturn, 1) := by decide +kernel
theorem dX12_readsDebt_0 : decode cX12_readsDebt 0 = .ok (.aload_n 0, 1) := by decide +kernel
theorem dX12_readsDebt_1 : decode cX12_readsDebt 1 = .ok (.getfield 42, 3) := by decide +kernel
theorem dX12_readsDebt_4 : decode cX12_readsDebt 4 = .ok (.bipush 33, 2) := by decide +kernel
theorem dX12_readsDebt_6 : decode cX12_readsDebt 6 = .ok (.iaload, 1) := by decide +kernel
theorem dX12_readsDebt_7 : decode cX12_readsDebt 7 = .ok (.bipush 8, 2) := by decide +kernel
theorem dX12_readsDebt_9 : decode cX12_readsDebt 9 = .ok (.if_icmp .ne 5, 3) := by decide +kernel
theorem dX12_readsDebt_12 : decode cX12_readsDebt 12 = .ok (.iconst 0, 1) := by decide +kernel
theorem dX12_readsDebt_13 : decode cX12_readsDebt 13 = .ok (.ireturn, 1) := by decide +kernel
theorem dX12_readsDebt_14 : decode cX12_readsDebt 14 = .ok (.aload_n 0, 1) := by decide +kernel
theorem dX12_readsDebt_15 : decode cX12_readsDebt 15 = .ok (.invokevirtual 272, 3) := by decide +kernel
theorem dX12_readsDebt_18 : decode cX12_readsDebt 18 = .ok (.aload_n 0, 1) := by decide +kernel
theorem dX12_readsDebt_19 : decode cX12_readsDebt 19 = .ok (.iconst 0, 1) := by decide +kernel
theorem dX12_readsDebt_20 : decode cX12_readsDebt 20 = .ok (.iconst 0, 1) := by decide +kernel
theorem dX12_readsDebt_21 : decode cX12_readsDebt 21 = .ok (.aload_n 0, 1) := by decide +kernel
theorem dX12_readsDebt_22 : decode cX12_readsDebt 22 = .ok (.invokevirtual 282, 3) := by decide +kernel
theorem dX12_readsDebt_25 : decode cX12_readsDebt 25 = .ok (.invokevirtual 278, 3) := by decide +kernel
theorem dX12_readsDebt_28 : decode cX12_readsDebt 28 = .ok (.ifCond .eq 49, 3) := by decide +kernel
theorem dX12_readsDebt_31 : decode cX12_readsDebt 31 = .ok (.aload_n 0, 1) := by decide +kernel
theorem dX12_readsDebt_32 : decode cX12_readsDebt 32 = .ok (.getfield 257, 3) := by decide +kernel
theorem dX12_readsDebt_35 : decode cX12_readsDebt 35 = .ok (.iconst 2, 1) := by decide +kernel
theorem dX12_readsDebt_36 : decode cX12_readsDebt 36 = .ok (.if_icmp .ne 16, 3) := by decide +kernel
theorem dX12_readsDebt_39 : decode cX12_readsDebt 39 = .ok (.aload_n 0, 1) := by decide +kernel
theorem dX12_readsDebt_40 : decode cX12_readsDebt 40 = .ok (.getfield 260, 3) := by decide +kernel
theorem dX12_readsDebt_43 : decode cX12_readsDebt 43 = .ok (.aload_n 0, 1) := by decide +kernel
theorem dX12_readsDebt_44 : decode cX12_readsDebt 44 = .ok (.getfield 45, 3) := by decide +kernel
theorem dX12_readsDebt_47 : decode cX12_readsDebt 47 = .ok (.iconst 0, 1) := by decide +kernel
theorem dX12_readsDebt_48 : decode cX12_readsDebt 48 = .ok (.iaload, 1) := by decide +kernel
theorem dX12_readsDebt_49 : decode cX12_readsDebt 49 = .ok (.if_icmp .eq 28, 3) := by decide +kernel
theorem dX12_readsDebt_52 : decode cX12_readsDebt 52 = .ok (.aload_n 0, 1) := by decide +kernel
theorem dX12_readsDebt_53 : decode cX12_readsDebt 53 = .ok (.iconst 1, 1) := by decide +kernel
theorem dX12_readsDebt_54 : decode cX12_readsDebt 54 = .ok (.iconst 0, 1) := by decide +kernel
theorem dX12_readsDebt_55 : decode cX12_readsDebt 55 = .ok (.aload_n 0, 1) := by decide +kernel
theorem dX12_readsDebt_56 : decode cX12_readsDebt 56 = .ok (.invokevirtual 282, 3) := by decide +kernel
theorem dX12_readsDebt_59 : decode cX12_readsDebt 59 = .ok (.invokevirtual 278, 3) := by decide +kernel
theorem dX12_readsDebt_62 : decode cX12_readsDebt 62 = .ok (.ifCond .eq 15, 3) := by decide +kernel
theorem dX12_readsDebt_65 : decode cX12_readsDebt 65 = .ok (.aload_n 0, 1) := by decide +kernel
theorem dX12_readsDebt_66 : decode cX12_readsDebt 66 = .ok (.iconst 2, 1) := by decide +kernel
theorem dX12_readsDebt_67 : decode cX12_readsDebt 67 = .ok (.iconst 1, 1) := by decide +kernel
theorem dX12_readsDebt_68 : decode cX12_readsDebt 68 = .ok (.sipush 999, 3) := by decide +kernel
theorem dX12_readsDebt_71 : decode cX12_readsDebt 71 = .ok (.invokevirtual 278, 3) := by decide +kernel
theorem dX12_readsDebt_74 : decode cX12_readsDebt 74 = .ok (.ifCond .ne 5, 3) := by decide +kernel
theorem dX12_readsDebt_77 : decode cX12_readsDebt 77 = .ok (.iconst 0, 1) := by decide +kernel
theorem dX12_readsDebt_78 : decode cX12_readsDebt 78 = .ok (.ireturn, 1) := by decide +kernel
theorem dX12_readsDebt_79 : decode cX12_readsDebt 79 = .ok (.aload_n 0, 1) := by decide +kernel
theorem dX12_readsDebt_80 : decode cX12_readsDebt 80 = .ok (.getfield 42, 3) := by decide +kernel
theorem dX12_readsDebt_83 : decode cX12_readsDebt 83 = .ok (.aload_n 0, 1) := by decide +kernel
theorem dX12_readsDebt_84 : decode cX12_readsDebt 84 = .ok (.getfield 45, 3) := by decide +kernel
theorem dX12_readsDebt_87 : decode cX12_readsDebt 87 = .ok (.iconst 0, 1) := by decide +kernel
theorem dX12_readsDebt_88 : decode cX12_readsDebt 88 = .ok (.iaload, 1) := by decide +kernel
theorem dX12_readsDebt_89 : decode cX12_readsDebt 89 = .ok (.aload_n 0, 1) := by decide +kernel
theorem dX12_readsDebt_90 : decode cX12_readsDebt 90 = .ok (.getfield 45, 3) := by decide +kernel
theorem dX12_readsDebt_93 : decode cX12_readsDebt 93 = .ok (.iconst 1, 1) := by decide +kernel
theorem dX12_readsDebt_94 : decode cX12_readsDebt 94 = .ok (.iaload, 1) := by decide +kernel
theorem dX12_readsDebt_95 : decode cX12_readsDebt 95 = .ok (.aload_n 0, 1) := by decide +kernel
theorem dX12_readsDebt_96 : decode cX12_readsDebt 96 = .ok (.getfield 45, 3) := by decide +kernel
theorem dX12_readsDebt_99 : decode cX12_readsDebt 99 = .ok (.iconst 2, 1) := by decide +kernel
theorem dX12_readsDebt_100 : decode cX12_readsDebt 100 = .ok (.iaload, 1) := by decide +kernel
theorem dX12_readsDebt_101 : decode cX12_readsDebt 101 = .ok (.invokestatic 191, 3) := by decide +kernel
theorem dX12_readsDebt_104 : decode cX12_readsDebt 104 = .ok (.iconst 1, 1) := by decide +kernel
theorem dX12_readsDebt_105 : decode cX12_readsDebt 105 = .ok (.ireturn, 1) := by decide +kernel
theorem dX12_readsFamily_0 : decode cX12_readsFamily 0 = .ok (.aload_n 0, 1) := by decide +kernel
theorem dX12_readsFamily_1 : decode cX12_readsFamily 1 = .ok (.getfield 42, 3) := by decide +kernel
theorem dX12_readsFamily_4 : decode cX12_readsFamily 4 = .ok (.bipush 6, 2) := by decide +kernel
theorem dX12_readsFamily_6 : decode cX12_readsFamily 6 = .ok (.iaload, 1) := by decide +kernel
theorem dX12_readsFamily_7 : decode cX12_readsFamily 7 = .ok (.bipush 6, 2) := by decide +kernel
theorem dX12_readsFamily_9 : decode cX12_readsFamily 9 = .ok (.if_icmp .ne 5, 3) := by decide +kernel
theorem dX12_readsFamily_12 : decode cX12_readsFamily 12 = .ok (.iconst 0, 1) := by decide +kernel
theorem dX12_readsFamily_13 : decode cX12_readsFamily 13 = .ok (.ireturn, 1) := by decide +kernel
theorem dX12_readsFamily_14 : decode cX12_readsFamily 14 = .ok (.aload_n 0, 1) := by decide +kernel
theorem dX12_readsFamily_15 : decode cX12_readsFamily 15 = .ok (.invokevirtual 272, 3) := by decide +kernel
theorem dX12_readsFamily_18 : decode cX12_readsFamily 18 = .ok (.aload_n 0, 1) := by decide +kernel
theorem dX12_readsFamily_19 : decode cX12_readsFamily 19 = .ok (.iconst 0, 1) := by decide +kernel
theorem dX12_readsFamily_20 : decode cX12_readsFamily 20 = .ok (.iconst 0, 1) := by decide +kernel
theorem dX12_readsFamily_21 : decode cX12_readsFamily 21 = .ok (.iconst 4, 1) := by decide +kernel
theorem dX12_readsFamily_22 : decode cX12_readsFamily 22 = .ok (.invokevirtual 278, 3) := by decide +kernel
theorem dX12_readsFamily_25 : decode cX12_readsFamily 25 = .ok (.ifCond .eq 25, 3) := by decide +kernel
theorem dX12_readsFamily_28 : decode cX12_readsFamily 28 = .ok (.aload_n 0, 1) := by decide +kernel
theorem dX12_readsFamily_29 : decode cX12_readsFamily 29 = .ok (.iconst 1, 1) := by decide +kernel
theorem dX12_readsFamily_30 : decode cX12_readsFamily 30 = .ok (.iconst 1, 1) := by decide +kernel
theorem dX12_readsFamily_31 : decode cX12_readsFamily 31 = .ok (.bipush 20, 2) := by decide +kernel
theorem dX12_readsFamily_33 : decode cX12_readsFamily 33 = .ok (.invokevirtual 278, 3) := by decide +kernel
theorem dX12_readsFamily_36 : decode cX12_readsFamily 36 = .ok (.ifCond .eq 14, 3) := by decide +kernel
theorem dX12_readsFamily_39 : decode cX12_readsFamily 39 = .ok (.aload_n 0, 1) := by decide +kernel
theorem dX12_readsFamily_40 : decode cX12_readsFamily 40 = .ok (.iconst 2, 1) := by decide +kernel
theorem dX12_readsFamily_41 : decode cX12_readsFamily 41 = .ok (.iconst 0, 1) := by decide +kernel
theorem dX12_readsFamily_42 : decode cX12_readsFamily 42 = .ok (.bipush 9, 2) := by decide +kernel
theorem dX12_readsFamily_44 : decode cX12_readsFamily 44 = .ok (.invokevirtual 278, 3) := by decide +kernel
theorem dX12_readsFamily_47 : decode cX12_readsFamily 47 = .ok (.ifCond .ne 5, 3) := by decide +kernel
theorem dX12_readsFamily_50 : decode cX12_readsFamily 50 = .ok (.iconst 0, 1) := by decide +kernel
theorem dX12_readsFamily_51 : decode cX12_readsFamily 51 = .ok (.ireturn, 1) := by decide +kernel
theorem dX12_readsFamily_52 : decode cX12_readsFamily 52 = .ok (.aload_n 0, 1) := by decide +kernel
theorem dX12_readsFamily_53 : decode cX12_readsFamily 53 = .ok (.getfield 42, 3) := by decide +kernel
theorem dX12_readsFamily_56 : decode cX12_readsFamily 56 = .ok (.aload_n 0, 1) := by decide +kernel
theorem dX12_readsFamily_57 : decode cX12_readsFamily 57 = .ok (.getfield 45, 3) := by decide +kernel
theorem dX12_readsFamily_60 : decode cX12_readsFamily 60 = .ok (.iconst 0, 1) := by decide +kernel
theorem dX12_readsFamily_61 : decode cX12_readsFamily 61 = .ok (.iaload, 1) := by decide +kernel
theorem dX12_readsFamily_62 : decode cX12_readsFamily 62 = .ok (.aload_n 0, 1) := by decide +kernel
theorem dX12_readsFamily_63 : decode cX12_readsFamily 63 = .ok (.getfield 45, 3) := by decide +kernel
theorem dX12_readsFamily_66 : decode cX12_readsFamily 66 = .ok (.iconst 1, 1) := by decide +kernel
theorem dX12_readsFamily_67 : decode cX12_readsFamily 67 = .ok (.iaload, 1) := by decide +kernel
theorem dX12_readsFamily_68 : decode cX12_readsFamily 68 = .ok (.aload_n 0, 1) := by decide +kernel
theorem dX12_readsFamily_69 : decode cX12_readsFamily 69 = .ok (.getfield 45, 3) := by decide +kernel
theorem dX12_readsFamily_72 : decode cX12_readsFamily 72 = .ok (.iconst 2, 1) := by decide +kernel
theorem dX12_readsFamily_73 : decode cX12_readsFamily 73 = .ok (.iaload, 1) := by decide +kernel
theorem dX12_readsFamily_74 : decode cX12_readsFamily 74 = .ok (.invokestatic 81, 3) := by decide +kernel
theorem dX12_readsFamily_77 : decode cX12_readsFamily 77 = .ok (.iconst 1, 1) := by decide +kernel
theorem dX12_readsFamily_78 : decode cX12_readsFamily 78 = .ok (.ireturn, 1) := by decide +kernel
theorem dX12_readsItem_0 : decode cX12_readsItem 0 = .ok (.aload_n 0, 1) := by decide +kernel
theorem dX12_readsItem_1 : decode cX12_readsItem 1 = .ok (.bipush 115, 2) := by decide +kernel
theorem dX12_readsItem_3 : decode cX12_readsItem 3 = .ok (.bipush 116, 2) := by decide +kernel
theorem dX12_readsItem_5 : decode cX12_readsItem 5 = .ok (.bipush 111, 2) := by decide +kernel
theorem dX12_readsItem_7 : decode cX12_readsItem 7 = .ok (.bipush 114, 2) := by decide +kernel
theorem dX12_readsItem_9 : decode cX12_readsItem 9 = .ok (.bipush 101, 2) := by decide +kernel
theorem dX12_readsItem_11 : decode cX12_readsItem 11 = .ok (.iconst 0, 1) := by decide +kernel
theorem dX12_readsItem_12 : decode cX12_readsItem 12 = .ok (.invokevirtual 275, 3) := by decide +kernel
theorem dX12_readsItem_15 : decode cX12_readsItem 15 = .ok (.ifCond .eq 72, 3) := by decide +kernel
theorem dX12_readsItem_18 : decode cX12_readsItem 18 = .ok (.aload_n 0, 1) := by decide +kernel
theorem dX12_readsItem_19 : decode cX12_readsItem 19 = .ok (.invokevirtual 272, 3) := by decide +kernel
theorem dX12_readsItem_22 : decode cX12_readsItem 22 = .ok (.aload_n 0, 1) := by decide +kernel
theorem dX12_readsItem_23 : decode cX12_readsItem 23 = .ok (.iconst 0, 1) := by decide +kernel
theorem dX12_readsItem_24 : decode cX12_readsItem 24 = .ok (.iconst 0, 1) := by decide +kernel
theorem dX12_readsItem_25 : decode cX12_readsItem 25 = .ok (.iconst 3, 1) := by decide +kernel
theorem dX12_readsItem_26 : decode cX12_readsItem 26 = .ok (.invokevirtual 278, 3) := by decide +kernel
theorem dX12_readsItem_29 : decode cX12_readsItem 29 = .ok (.ifCond .eq 19, 3) := by decide +kernel
theorem dX12_readsItem_32 : decode cX12_readsItem 32 = .ok (.aload_n 0, 1) := by decide +kernel
theorem dX12_readsItem_33 : decode cX12_readsItem 33 = .ok (.iconst 1, 1) := by decide +kernel
theorem dX12_readsItem_34 : decode cX12_readsItem 34 = .ok (.iconst 0, 1) := by decide +kernel
theorem dX12_readsItem_35 : decode cX12_readsItem 35 = .ok (.sipush 9999, 3) := by decide +kernel
theorem dX12_readsItem_38 : decode cX12_readsItem 38 = .ok (.invokevirtual 278, 3) := by decide +kernel
theorem dX12_readsItem_41 : decode cX12_readsItem 41 = .ok (.ifCond .eq 7, 3) := by decide +kernel
theorem dX12_readsItem_44 : decode cX12_readsItem 44 = .ok (.iconst 1, 1) := by decide +kernel
theorem dX12_readsItem_45 : decode cX12_readsItem 45 = .ok (.goto 4, 3) := by decide +kernel
theorem dX12_readsItem_48 : decode cX12_readsItem 48 = .ok (.iconst 0, 1) := by decide +kernel
theorem dX12_readsItem_49 : decode cX12_readsItem 49 = .ok (.istore_n 1, 1) := by decide +kernel
theorem dX12_readsItem_50 : decode cX12_readsItem 50 = .ok (.aload_n 0, 1) := by decide +kernel
theorem dX12_readsItem_51 : decode cX12_readsItem 51 = .ok (.getfield 42, 3) := by decide +kernel
theorem dX12_readsItem_54 : decode cX12_readsItem 54 = .ok (.iconst 2, 1) := by decide +kernel
theorem dX12_readsItem_55 : decode cX12_readsItem 55 = .ok (.iload_n 1, 1) := by decide +kernel
theorem dX12_readsItem_56 : decode cX12_readsItem 56 = .ok (.ifCond .eq 12, 3) := by decide +kernel
theorem dX12_readsItem_59 : decode cX12_readsItem 59 = .ok (.aload_n 0, 1) := by decide +kernel
theorem dX12_readsItem_60 : decode cX12_readsItem 60 = .ok (.getfield 45, 3) := by decide +kernel
theorem dX12_readsItem_63 : decode cX12_readsItem 63 = .ok (.iconst 0, 1) := by decide +kernel
theorem dX12_readsItem_64 : decode cX12_readsItem 64 = .ok (.iaload, 1) := by decide +kernel
theorem dX12_readsItem_65 : decode cX12_readsItem 65 = .ok (.goto 4, 3) := by decide +kernel
theorem dX12_readsItem_68 : decode cX12_readsItem 68 = .ok (.iconst 0, 1) := by decide +kernel
theorem dX12_readsItem_69 : decode cX12_readsItem 69 = .ok (.iadd, 1) := by decide +kernel
theorem dX12_readsItem_70 : decode cX12_readsItem 70 = .ok (.iload_n 1, 1) := by decide +kernel
theorem dX12_readsItem_71 : decode cX12_readsItem 71 = .ok (.ifCond .eq 12, 3) := by decide +kernel
theorem dX12_readsItem_74 : decode cX12_readsItem 74 = .ok (.aload_n 0, 1) := by decide +kernel
theorem dX12_readsItem_75 : decode cX12_readsItem 75 = .ok (.getfield 45, 3) := by decide +kernel
theorem dX12_readsItem_78 : decode cX12_readsItem 78 = .ok (.iconst 1, 1) := by decide +kernel
theorem dX12_readsItem_79 : decode cX12_readsItem 79 = .ok (.iaload, 1) := by decide +kernel
theorem dX12_readsItem_80 : decode cX12_readsItem 80 = .ok (.goto 4, 3) := by decide +kernel
theorem dX12_readsItem_83 : decode cX12_readsItem 83 = .ok (.iconst 0, 1) := by decide +kernel
theorem dX12_readsItem_84 : decode cX12_readsItem 84 = .ok (.iastore, 1) := by decide +kernel
theorem dX12_readsItem_85 : decode cX12_readsItem 85 = .ok (.iload_n 1, 1) := by decide +kernel
theorem dX12_readsItem_86 : decode cX12_readsItem 86 = .ok (.ireturn, 1) := by decide +kernel
theorem dX12_readsItem_87 : decode cX12_readsItem 87 = .ok (.aload_n 0, 1) := by decide +kernel
theorem dX12_readsItem_88 : decode cX12_readsItem 88 = .ok (.bipush 102, 2) := by decide +kernel
theorem dX12_readsItem_90 : decode cX12_readsItem 90 = .ok (.bipush 97, 2) := by decide +kernel
theorem dX12_readsItem_92 : decode cX12_readsItem 92 = .ok (.bipush 109, 2) := by decide +kernel
theorem dX12_readsItem_94 : decode cX12_readsItem 94 = .ok (.bipush 105, 2) := by decide +kernel
theorem dX12_readsItem_96 : decode cX12_readsItem 96 = .ok (.bipush 108, 2) := by decide +kernel
theorem dX12_readsItem_98 : decode cX12_readsItem 98 = .ok (.bipush 121, 2) := by decide +kernel
theorem dX12_readsItem_100 : decode cX12_readsItem 100 = .ok (.invokevirtual 275, 3) := by decide +kernel
theorem dX12_readsItem_103 : decode cX12_readsItem 103 = .ok (.ifCond .eq 8, 3) := by decide +kernel
theorem dX12_readsItem_106 : decode cX12_readsItem 106 = .ok (.aload_n 0, 1) := by decide +kernel
theorem dX12_readsItem_107 : decode cX12_readsItem 107 = .ok (.invokevirtual 285, 3) := by decide +kernel
theorem dX12_readsItem_110 : decode cX12_readsItem 110 = .ok (.ireturn, 1) := by decide +kernel
theorem dX12_readsItem_111 : decode cX12_readsItem 111 = .ok (.aload_n 0, 1) := by decide +kernel
theorem dX12_readsItem_112 : decode cX12_readsItem 112 = .ok (.bipush 106, 2) := by decide +kernel
theorem dX12_readsItem_114 : decode cX12_readsItem 114 = .ok (.bipush 111, 2) := by decide +kernel
theorem dX12_readsItem_116 : decode cX12_readsItem 116 = .ok (.bipush 98, 2) := by decide +kernel
theorem dX12_readsItem_118 : decode cX12_readsItem 118 = .ok (.iconst 0, 1) := by decide +kernel
theorem dX12_readsItem_119 : decode cX12_readsItem 119 = .ok (.iconst 0, 1) := by decide +kernel
theorem dX12_readsItem_120 : decode cX12_readsItem 120 = .ok (.iconst 0, 1) := by decide +kernel
theorem dX12_readsItem_121 : decode cX12_readsItem 121 = .ok (.invokevirtual 275, 3) := by decide +kernel
theorem dX12_readsItem_124 : decode cX12_readsItem 124 = .ok (.ifCond .eq 66, 3) := by decide +kernel
theorem dX12_readsItem_127 : decode cX12_readsItem 127 = .ok (.aload_n 0, 1) := by decide +kernel
theorem dX12_readsItem_128 : decode cX12_readsItem 128 = .ok (.invokevirtual 272, 3) := by decide +kernel
theorem dX12_readsItem_131 : decode cX12_readsItem 131 = .ok (.aload_n 0, 1) := by decide +kernel
theorem dX12_readsItem_132 : decode cX12_readsItem 132 = .ok (.iconst 0, 1) := by decide +kernel
theorem dX12_readsItem_133 : decode cX12_readsItem 133 = .ok (.iconst 0, 1) := by decide +kernel
theorem dX12_readsItem_134 : decode cX12_readsItem 134 = .ok (.aload_n 0, 1) := by decide +kernel
theorem dX12_readsItem_135 : decode cX12_readsItem 135 = .ok (.invokevirtual 282, 3) := by decide +kernel
theorem dX12_readsItem_138 : decode cX12_readsItem 138 = .ok (.invokevirtual 278, 3) := by decide +kernel
theorem dX12_readsItem_141 : decode cX12_readsItem 141 = .ok (.ifCond .eq 17, 3) := by decide +kernel
theorem dX12_readsItem_144 : decode cX12_readsItem 144 = .ok (.aload_n 0, 1) := by decide +kernel
theorem dX12_readsItem_145 : decode cX12_readsItem 145 = .ok (.iconst 1, 1) := by decide +kernel
theorem dX12_readsItem_146 : decode cX12_readsItem 146 = .ok (.iconst 0, 1) := by decide +kernel
theorem dX12_readsItem_147 : decode cX12_readsItem 147 = .ok (.iconst 4, 1) := by decide +kernel
theorem dX12_readsItem_148 : decode cX12_readsItem 148 = .ok (.invokevirtual 278, 3) := by decide +kernel
theorem dX12_readsItem_151 : decode cX12_readsItem 151 = .ok (.ifCond .eq 7, 3) := by decide +kernel
theorem dX12_readsItem_154 : decode cX12_readsItem 154 = .ok (.iconst 1, 1) := by decide +kernel
theorem dX12_readsItem_155 : decode cX12_readsItem 155 = .ok (.goto 4, 3) := by decide +kernel
theorem dX12_readsItem_158 : decode cX12_readsItem 158 = .ok (.iconst 0, 1) := by decide +kernel
theorem dX12_readsItem_159 : decode cX12_readsItem 159 = .ok (.istore_n 1, 1) := by decide +kernel
theorem dX12_readsItem_160 : decode cX12_readsItem 160 = .ok (.iload_n 1, 1) := by decide +kernel
theorem dX12_readsItem_161 : decode cX12_readsItem 161 = .ok (.ifCond .eq 27, 3) := by decide +kernel
theorem dX12_readsItem_164 : decode cX12_readsItem 164 = .ok (.aload_n 0, 1) := by decide +kernel
theorem dX12_readsItem_165 : decode cX12_readsItem 165 = .ok (.getfield 42, 3) := by decide +kernel
theorem dX12_readsItem_168 : decode cX12_readsItem 168 = .ok (.bipush 7, 2) := by decide +kernel
theorem dX12_readsItem_170 : decode cX12_readsItem 170 = .ok (.iconst 4, 1) := by decide +kernel
theorem dX12_readsItem_171 : decode cX12_readsItem 171 = .ok (.aload_n 0, 1) := by decide +kernel
theorem dX12_readsItem_172 : decode cX12_readsItem 172 = .ok (.getfield 45, 3) := by decide +kernel
theorem dX12_readsItem_175 : decode cX12_readsItem 175 = .ok (.iconst 0, 1) := by decide +kernel
theorem dX12_readsItem_176 : decode cX12_readsItem 176 = .ok (.iaload, 1) := by decide +kernel
theorem dX12_readsItem_177 : decode cX12_readsItem 177 = .ok (.imul, 1) := by decide +kernel
theorem dX12_readsItem_178 : decode cX12_readsItem 178 = .ok (.iadd, 1) := by decide +kernel
theorem dX12_readsItem_179 : decode cX12_readsItem 179 = .ok (.iconst 3, 1) := by decide +kernel
theorem dX12_readsItem_180 : decode cX12_readsItem 180 = .ok (.iadd, 1) := by decide +kernel
theorem dX12_readsItem_181 : decode cX12_readsItem 181 = .ok (.aload_n 0, 1) := by decide +kernel
theorem dX12_readsItem_182 : decode cX12_readsItem 182 = .ok (.getfield 45, 3) := by decide +kernel
theorem dX12_readsItem_185 : decode cX12_readsItem 185 = .ok (.iconst 1, 1) := by decide +kernel
theorem dX12_readsItem_186 : decode cX12_readsItem 186 = .ok (.iaload, 1) := by decide +kernel
theorem dX12_readsItem_187 : decode cX12_readsItem 187 = .ok (.iastore, 1) := by decide +kernel
theorem dX12_readsItem_188 : decode cX12_readsItem 188 = .ok (.iload_n 1, 1) := by decide +kernel
theorem dX12_readsItem_189 : decode cX12_readsItem 189 = .ok (.ireturn, 1) := by decide +kernel
theorem dX12_readsItem_190 : decode cX12_readsItem 190 = .ok (.aload_n 0, 1) := by decide +kernel
theorem dX12_readsItem_191 : decode cX12_readsItem 191 = .ok (.bipush 100, 2) := by decide +kernel
theorem dX12_readsItem_193 : decode cX12_readsItem 193 = .ok (.bipush 101, 2) := by decide +kernel
theorem dX12_readsItem_195 : decode cX12_readsItem 195 = .ok (.bipush 98, 2) := by decide +kernel
theorem dX12_readsItem_197 : decode cX12_readsItem 197 = .ok (.bipush 116, 2) := by decide +kernel
theorem dX12_readsItem_199 : decode cX12_readsItem 199 = .ok (.iconst 0, 1) := by decide +kernel
theorem dX12_readsItem_200 : decode cX12_readsItem 200 = .ok (.iconst 0, 1) := by decide +kernel
theorem dX12_readsItem_201 : decode cX12_readsItem 201 = .ok (.invokevirtual 275, 3) := by decide +kernel
theorem dX12_readsItem_204 : decode cX12_readsItem 204 = .ok (.ifCond .eq 14, 3) := by decide +kernel
theorem dX12_readsItem_207 : decode cX12_readsItem 207 = .ok (.aload_n 0, 1) := by decide +kernel
theorem dX12_readsItem_208 : decode cX12_readsItem 208 = .ok (.invokevirtual 289, 3) := by decide +kernel
theorem dX12_readsItem_211 : decode cX12_readsItem 211 = .ok (.ifCond .eq 7, 3) := by decide +kernel
theorem dX12_readsItem_214 : decode cX12_readsItem 214 = .ok (.iconst 1, 1) := by decide +kernel
theorem dX12_readsItem_215 : decode cX12_readsItem 215 = .ok (.goto 4, 3) := by decide +kernel
theorem dX12_readsItem_218 : decode cX12_readsItem 218 = .ok (.iconst 0, 1) := by decide +kernel
theorem dX12_readsItem_219 : decode cX12_readsItem 219 = .ok (.ireturn, 1) := by decide +kernel
theorem dX12_read_0 : decode cX12_read 0 = .ok (.aload_n 0, 1) := by decide +kernel
theorem dX12_read_1 : decode cX12_read 1 = .ok (.iconst 0, 1) := by decide +kernel
theorem dX12_read_2 : decode cX12_read 2 = .ok (.invokevirtual 269, 3) := by decide +kernel
theorem dX12_read_5 : decode cX12_read 5 = .ok (.aload_n 0, 1) := by decide +kernel
theorem dX12_read_6 : decode cX12_read 6 = .ok (.invokevirtual 292, 3) := by decide +kernel
theorem dX12_read_9 : decode cX12_read 9 = .ok (.ifCond .ne 11, 3) := by decide +kernel
theorem dX12_read_12 : decode cX12_read 12 = .ok (.bipush (-10), 2) := by decide +kernel
theorem dX12_read_14 : decode cX12_read 14 = .ok (.aload_n 0, 1) := by decide +kernel
theorem dX12_read_15 : decode cX12_read 15 = .ok (.getfield 251, 3) := by decide +kernel
theorem dX12_read_18 : decode cX12_read 18 = .ok (.isub, 1) := by decide +kernel
theorem dX12_read_19 : decode cX12_read 19 = .ok (.ireturn, 1) := by decide +kernel
theorem dX12_read_20 : decode cX12_read 20 = .ok (.aload_n 0, 1) := by decide +kernel
theorem dX12_read_21 : decode cX12_read 21 = .ok (.invokevirtual 272, 3) := by decide +kernel
theorem dX12_read_24 : decode cX12_read 24 = .ok (.iconst 1, 1) := by decide +kernel
theorem dX12_read_25 : decode cX12_read 25 = .ok (.istore_n 1, 1) := by decide +kernel
theorem dX12_read_26 : decode cX12_read 26 = .ok (.aload_n 0, 1) := by decide +kernel
theorem dX12_read_27 : decode cX12_read 27 = .ok (.getfield 257, 3) := by decide +kernel
theorem dX12_read_30 : decode cX12_read 30 = .ok (.ifCond .eq 36, 3) := by decide +kernel
theorem dX12_read_33 : decode cX12_read 33 = .ok (.aload_n 0, 1) := by decide +kernel
theorem dX12_read_34 : decode cX12_read 34 = .ok (.invokevirtual 295, 3) := by decide +kernel
theorem dX12_read_37 : decode cX12_read 37 = .ok (.ifCond .eq 11, 3) := by decide +kernel
theorem dX12_read_40 : decode cX12_read 40 = .ok (.aload_n 0, 1) := by decide +kernel
theorem dX12_read_41 : decode cX12_read 41 = .ok (.getfield 257, 3) := by decide +kernel
theorem dX12_read_44 : decode cX12_read 44 = .ok (.iconst 3, 1) := by decide +kernel
theorem dX12_read_45 : decode cX12_read 45 = .ok (.if_icmp .eq 11, 3) := by decide +kernel
theorem dX12_read_48 : decode cX12_read 48 = .ok (.bipush (-10), 2) := by decide +kernel
theorem dX12_read_50 : decode cX12_read 50 = .ok (.aload_n 0, 1) := by decide +kernel
theorem dX12_read_51 : decode cX12_read 51 = .ok (.getfield 251, 3) := by decide +kernel
theorem dX12_read_54 : decode cX12_read 54 = .ok (.isub, 1) := by decide +kernel
theorem dX12_read_55 : decode cX12_read 55 = .ok (.ireturn, 1) := by decide +kernel
theorem dX12_read_56 : decode cX12_read 56 = .ok (.aload_n 0, 1) := by decide +kernel
theorem dX12_read_57 : decode cX12_read 57 = .ok (.invokevirtual 272, 3) := by decide +kernel
theorem dX12_read_60 : decode cX12_read 60 = .ok (.iinc 1 1, 3) := by decide +kernel
theorem dX12_read_63 : decode cX12_read 63 = .ok (.goto (-37), 3) := by decide +kernel
theorem dX12_read_66 : decode cX12_read 66 = .ok (.iconst 0, 1) := by decide +kernel
theorem dX12_read_67 : decode cX12_read 67 = .ok (.istore_n 2, 1) := by decide +kernel
theorem dX12_read_68 : decode cX12_read 68 = .ok (.iload_n 2, 1) := by decide +kernel
theorem dX12_read_69 : decode cX12_read 69 = .ok (.bipush 116, 2) := by decide +kernel
theorem dX12_read_71 : decode cX12_read 71 = .ok (.if_icmp .ge 21, 3) := by decide +kernel
theorem dX12_read_74 : decode cX12_read 74 = .ok (.aload_n 0, 1) := by decide +kernel
theorem dX12_read_75 : decode cX12_read 75 = .ok (.getfield 7, 3) := by decide +kernel
theorem dX12_read_78 : decode cX12_read 78 = .ok (.iload_n 2, 1) := by decide +kernel
theorem dX12_read_79 : decode cX12_read 79 = .ok (.aload_n 0, 1) := by decide +kernel
theorem dX12_read_80 : decode cX12_read 80 = .ok (.getfield 42, 3) := by decide +kernel
theorem dX12_read_83 : decode cX12_read 83 = .ok (.iload_n 2, 1) := by decide +kernel
theorem dX12_read_84 : decode cX12_read 84 = .ok (.iaload, 1) := by decide +kernel
theorem dX12_read_85 : decode cX12_read 85 = .ok (.iastore, 1) := by decide +kernel
theorem dX12_read_86 : decode cX12_read 86 = .ok (.iinc 2 1, 3) := by decide +kernel
theorem dX12_read_89 : decode cX12_read 89 = .ok (.goto (-21), 3) := by decide +kernel
theorem dX12_read_92 : decode cX12_read 92 = .ok (.iload_n 1, 1) := by decide +kernel
theorem dX12_read_93 : decode cX12_read 93 = .ok (.ireturn, 1) := by decide +kernel
theorem dX12_part_0 : decode cX12_part 0 = .ok (.iload_n 1, 1) := by decide +kernel
theorem dX12_part_1 : decode cX12_part 1 = .ok (.ifCond .ne 10, 3) := by decide +kernel
theorem dX12_part_4 : decode cX12_part 4 = .ok (.aload_n 0, 1) := by decide +kernel
theorem dX12_part_5 : decode cX12_part 5 = .ok (.getfield 161, 3) := by decide +kernel
theorem dX12_part_8 : decode cX12_part 8 = .ok (.goto 22, 3) := by decide +kernel
theorem dX12_part_11 : decode cX12_part 11 = .ok (.iload_n 1, 1) := by decide +kernel
theorem dX12_part_12 : decode cX12_part 12 = .ok (.iconst 1, 1) := by decide +kernel
theorem dX12_part_13 : decode cX12_part 13 = .ok (.if_icmp .ne 10, 3) := by decide +kernel
theorem dX12_part_16 : decode cX12_part 16 = .ok (.aload_n 0, 1) := by decide +kernel
theorem dX12_part_17 : decode cX12_part 17 = .ok (.getfield 23, 3) := by decide +kernel
theorem dX12_part_20 : decode cX12_part 20 = .ok (.goto 10, 3) := by decide +kernel
theorem dX12_part_23 : decode cX12_part 23 = .ok (.aload_n 0, 1) := by decide +kernel
theorem dX12_part_24 : decode cX12_part 24 = .ok (.bipush (-2), 2) := by decide +kernel
theorem dX12_part_26 : decode cX12_part 26 = .ok (.invokevirtual 64, 3) := by decide +kernel
theorem dX12_part_29 : decode cX12_part 29 = .ok (.i2l, 1) := by decide +kernel
theorem dX12_part_30 : decode cX12_part 30 = .ok (.lreturn, 1) := by decide +kernel
theorem dX12_image_0 : decode cX12_image 0 = .ok (.iload_n 1, 1) := by decide +kernel
theorem dX12_image_1 : decode cX12_image 1 = .ok (.i2l, 1) := by decide +kernel
theorem dX12_image_2 : decode cX12_image 2 = .ok (.lconst 0, 1) := by decide +kernel
theorem dX12_image_3 : decode cX12_image 3 = .ok (.lconst 1, 1) := by decide +kernel
theorem dX12_image_4 : decode cX12_image 4 = .ok (.invokestatic 56, 3) := by decide +kernel
theorem dX12_image_7 : decode cX12_image 7 = .ok (.ifCond .ne 10, 3) := by decide +kernel
theorem dX12_image_10 : decode cX12_image 10 = .ok (.aload_n 0, 1) := by decide +kernel
theorem dX12_image_11 : decode cX12_image 11 = .ok (.bipush (-2), 2) := by decide +kernel
theorem dX12_image_13 : decode cX12_image 13 = .ok (.invokevirtual 64, 3) := by decide +kernel
theorem dX12_image_16 : decode cX12_image 16 = .ok (.ireturn, 1) := by decide +kernel
theorem dX12_image_17 : decode cX12_image 17 = .ok (.iconst 0, 1) := by decide +kernel
theorem dX12_image_18 : decode cX12_image 18 = .ok (.istore_n 2, 1) := by decide +kernel
theorem dX12_image_19 : decode cX12_image 19 = .ok (.iload_n 2, 1) := by decide +kernel
theorem dX12_image_20 : decode cX12_image 20 = .ok (.sipush 236, 3) := by decide +kernel
theorem dX12_image_23 : decode cX12_image 23 = .ok (.if_icmp .ge 27, 3) := by decide +kernel
theorem dX12_image_26 : decode cX12_image 26 = .ok (.aload_n 0, 1) := by decide +kernel
theorem dX12_image_27 : decode cX12_image 27 = .ok (.getfield 13, 3) := by decide +kernel
theorem dX12_image_30 : decode cX12_image 30 = .ok (.sipush 236, 3) := by decide +kernel
theorem dX12_image_33 : decode cX12_image 33 = .ok (.iload_n 1, 1) := by decide +kernel
theorem dX12_image_34 : decode cX12_image 34 = .ok (.imul, 1) := by decide +kernel
theorem dX12_image_35 : decode cX12_image 35 = .ok (.iload_n 2, 1) := by decide +kernel
theorem dX12_image_36 : decode cX12_image 36 = .ok (.iadd, 1) := by decide +kernel
theorem dX12_image_37 : decode cX12_image 37 = .ok (.aload_n 0, 1) := by decide +kernel
theorem dX12_image_38 : decode cX12_image 38 = .ok (.getfield 7, 3) := by decide +kernel
theorem dX12_image_41 : decode cX12_image 41 = .ok (.iload_n 2, 1) := by decide +kernel
theorem dX12_image_42 : decode cX12_image 42 = .ok (.iaload, 1) := by decide +kernel
theorem dX12_image_43 : decode cX12_image 43 = .ok (.iastore, 1) := by decide +kernel
theorem dX12_image_44 : decode cX12_image 44 = .ok (.iinc 2 1, 3) := by decide +kernel
theorem dX12_image_47 : decode cX12_image 47 = .ok (.goto (-28), 3) := by decide +kernel
theorem dX12_image_50 : decode cX12_image 50 = .ok (.aload_n 0, 1) := by decide +kernel
theorem dX12_image_51 : decode cX12_image 51 = .ok (.getfield 16, 3) := by decide +kernel
theorem dX12_image_54 : decode cX12_image 54 = .ok (.iload_n 1, 1) := by decide +kernel
theorem dX12_image_55 : decode cX12_image 55 = .ok (.iconst 1, 1) := by decide +kernel
theorem dX12_image_56 : decode cX12_image 56 = .ok (.bastore, 1) := by decide +kernel
theorem dX12_image_57 : decode cX12_image 57 = .ok (.iconst 1, 1) := by decide +kernel
theorem dX12_image_58 : decode cX12_image 58 = .ok (.ireturn, 1) := by decide +kernel
theorem dX12_from_0 : decode cX12_from 0 = .ok (.iload_n 1, 1) := by decide +kernel
theorem dX12_from_1 : decode cX12_from 1 = .ok (.i2l, 1) := by decide +kernel
theorem dX12_from_2 : decode cX12_from 2 = .ok (.lconst 0, 1) := by decide +kernel
theorem dX12_from_3 : decode cX12_from 3 = .ok (.lconst 1, 1) := by decide +kernel
theorem dX12_from_4 : decode cX12_from 4 = .ok (.invokestatic 56, 3) := by decide +kernel
theorem dX12_from_7 : decode cX12_from 7 = .ok (.ifCond .ne 10, 3) := by decide +kernel
theorem dX12_from_10 : decode cX12_from 10 = .ok (.aload_n 0, 1) := by decide +kernel
theorem dX12_from_11 : decode cX12_from 11 = .ok (.bipush (-2), 2) := by decide +kernel
theorem dX12_from_13 : decode cX12_from 13 = .ok (.invokevirtual 64, 3) := by decide +kernel
theorem dX12_from_16 : decode cX12_from 16 = .ok (.ireturn, 1) := by decide +kernel
theorem dX12_from_17 : decode cX12_from 17 = .ok (.aload_n 0, 1) := by decide +kernel
theorem dX12_from_18 : decode cX12_from 18 = .ok (.getfield 16, 3) := by decide +kernel
theorem dX12_from_21 : decode cX12_from 21 = .ok (.iload_n 1, 1) := by decide +kernel
theorem dX12_from_22 : decode cX12_from 22 = .ok (.baload, 1) := by decide +kernel
theorem dX12_from_23 : decode cX12_from 23 = .ok (.ifCond .ne 8, 3) := by decide +kernel
theorem dX12_from_26 : decode cX12_from 26 = .ok (.aload_n 0, 1) := by decide +kernel
theorem dX12_from_27 : decode cX12_from 27 = .ok (.invokevirtual 139, 3) := by decide +kernel
theorem dX12_from_30 : decode cX12_from 30 = .ok (.ireturn, 1) := by decide +kernel
theorem dX12_from_31 : decode cX12_from 31 = .ok (.iconst 0, 1) := by decide +kernel
theorem dX12_from_32 : decode cX12_from 32 = .ok (.istore_n 2, 1) := by decide +kernel
theorem dX12_from_33 : decode cX12_from 33 = .ok (.iload_n 2, 1) := by decide +kernel
theorem dX12_from_34 : decode cX12_from 34 = .ok (.sipush 236, 3) := by decide +kernel
theorem dX12_from_37 : decode cX12_from 37 = .ok (.if_icmp .ge 27, 3) := by decide +kernel
theorem dX12_from_40 : decode cX12_from 40 = .ok (.aload_n 0, 1) := by decide +kernel
theorem dX12_from_41 : decode cX12_from 41 = .ok (.getfield 7, 3) := by decide +kernel
theorem dX12_from_44 : decode cX12_from 44 = .ok (.iload_n 2, 1) := by decide +kernel
theorem dX12_from_45 : decode cX12_from 45 = .ok (.aload_n 0, 1) := by decide +kernel
theorem dX12_from_46 : decode cX12_from 46 = .ok (.getfield 13, 3) := by decide +kernel
theorem dX12_from_49 : decode cX12_from 49 = .ok (.sipush 236, 3) := by decide +kernel
theorem dX12_from_52 : decode cX12_from 52 = .ok (.iload_n 1, 1) := by decide +kernel
theorem dX12_from_53 : decode cX12_from 53 = .ok (.imul, 1) := by decide +kernel
theorem dX12_from_54 : decode cX12_from 54 = .ok (.iload_n 2, 1) := by decide +kernel
theorem dX12_from_55 : decode cX12_from 55 = .ok (.iadd, 1) := by decide +kernel
theorem dX12_from_56 : decode cX12_from 56 = .ok (.iaload, 1) := by decide +kernel
theorem dX12_from_57 : decode cX12_from 57 = .ok (.iastore, 1) := by decide +kernel
theorem dX12_from_58 : decode cX12_from 58 = .ok (.iinc 2 1, 3) := by decide +kernel
theorem dX12_from_61 : decode cX12_from 61 = .ok (.goto (-28), 3) := by decide +kernel
theorem dX12_from_64 : decode cX12_from 64 = .ok (.iconst 1, 1) := by decide +kernel
theorem dX12_from_65 : decode cX12_from 65 = .ok (.ireturn, 1) := by decide +kernel
theorem dX12_status_0 : decode cX12_status 0 = .ok (.iload_n 1, 1) := by decide +kernel
theorem dX12_status_1 : decode cX12_status 1 = .ok (.i2l, 1) := by decide +kernel
theorem dX12_status_2 : decode cX12_status 2 = .ok (.lconst 0, 1) := by decide +kernel
theorem dX12_status_3 : decode cX12_status 3 = .ok (.ldc2_w 60, 3) := by decide +kernel
theorem dX12_status_6 : decode cX12_status 6 = .ok (.invokestatic 56, 3) := by decide +kernel
theorem dX12_status_9 : decode cX12_status 9 = .ok (.ifCond .eq 12, 3) := by decide +kernel
theorem dX12_status_12 : decode cX12_status 12 = .ok (.aload_n 0, 1) := by decide +kernel
theorem dX12_status_13 : decode cX12_status 13 = .ok (.getfield 20, 3) := by decide +kernel
theorem dX12_status_16 : decode cX12_status 16 = .ok (.iload_n 1, 1) := by decide +kernel
theorem dX12_status_17 : decode cX12_status 17 = .ok (.iaload, 1) := by decide +kernel
theorem dX12_status_18 : decode cX12_status 18 = .ok (.goto 8, 3) := by decide +kernel
theorem dX12_status_21 : decode cX12_status 21 = .ok (.aload_n 0, 1) := by decide +kernel
theorem dX12_status_22 : decode cX12_status 22 = .ok (.iconst (-1), 1) := by decide +kernel
theorem dX12_status_23 : decode cX12_status 23 = .ok (.invokevirtual 64, 3) := by decide +kernel
theorem dX12_status_26 : decode cX12_status 26 = .ok (.ireturn, 1) := by decide +kernel
theorem dX12_counted_0 : decode cX12_counted 0 = .ok (.iload_n 1, 1) := by decide +kernel
theorem dX12_counted_1 : decode cX12_counted 1 = .ok (.tableswitch 122 0 12 #[67, 67, 67, 67, 67, 67, 67, 74, 82, 90, 98, 106, 114], 67) := by decide +kernel
theorem dX12_counted_68 : decode cX12_counted 68 = .ok (.aload_n 0, 1) := by decide +kernel
theorem dX12_counted_69 : decode cX12_counted 69 = .ok (.getfield 7, 3) := by decide +kernel
theorem dX12_counted_72 : decode cX12_counted 72 = .ok (.iload_n 1, 1) := by decide +kernel
theorem dX12_counted_73 : decode cX12_counted 73 = .ok (.iaload, 1) := by decide +kernel
theorem dX12_counted_74 : decode cX12_counted 74 = .ok (.ireturn, 1) := by decide +kernel
theorem dX12_counted_75 : decode cX12_counted 75 = .ok (.aload_n 0, 1) := by decide +kernel
theorem dX12_counted_76 : decode cX12_counted 76 = .ok (.getfield 7, 3) := by decide +kernel
theorem dX12_counted_79 : decode cX12_counted 79 = .ok (.bipush 33, 2) := by decide +kernel
theorem dX12_counted_81 : decode cX12_counted 81 = .ok (.iaload, 1) := by decide +kernel
theorem dX12_counted_82 : decode cX12_counted 82 = .ok (.ireturn, 1) := by decide +kernel
theorem dX12_counted_83 : decode cX12_counted 83 = .ok (.aload_n 0, 1) := by decide +kernel
theorem dX12_counted_84 : decode cX12_counted 84 = .ok (.getfield 7, 3) := by decide +kernel
theorem dX12_counted_87 : decode cX12_counted 87 = .ok (.bipush 59, 2) := by decide +kernel
theorem dX12_counted_89 : decode cX12_counted 89 = .ok (.iaload, 1) := by decide +kernel
theorem dX12_counted_90 : decode cX12_counted 90 = .ok (.ireturn, 1) := by decide +kernel
theorem dX12_counted_91 : decode cX12_counted 91 = .ok (.aload_n 0, 1) := by decide +kernel
theorem dX12_counted_92 : decode cX12_counted 92 = .ok (.getfield 7, 3) := by decide +kernel
theorem dX12_counted_95 : decode cX12_counted 95 = .ok (.bipush 90, 2) := by decide +kernel
theorem dX12_counted_97 : decode cX12_counted 97 = .ok (.iaload, 1) := by decide +kernel
theorem dX12_counted_98 : decode cX12_counted 98 = .ok (.ireturn, 1) := by decide +kernel
theorem dX12_counted_99 : decode cX12_counted 99 = .ok (.aload_n 0, 1) := by decide +kernel
theorem dX12_counted_100 : decode cX12_counted 100 = .ok (.getfield 7, 3) := by decide +kernel
theorem dX12_counted_103 : decode cX12_counted 103 = .ok (.bipush 31, 2) := by decide +kernel
theorem dX12_counted_105 : decode cX12_counted 105 = .ok (.iaload, 1) := by decide +kernel
theorem dX12_counted_106 : decode cX12_counted 106 = .ok (.ireturn, 1) := by decide +kernel
theorem dX12_counted_107 : decode cX12_counted 107 = .ok (.aload_n 0, 1) := by decide +kernel
theorem dX12_counted_108 : decode cX12_counted 108 = .ok (.getfield 7, 3) := by decide +kernel
theorem dX12_counted_111 : decode cX12_counted 111 = .ok (.bipush 32, 2) := by decide +kernel
theorem dX12_counted_113 : decode cX12_counted 113 = .ok (.iaload, 1) := by decide +kernel
theorem dX12_counted_114 : decode cX12_counted 114 = .ok (.ireturn, 1) := by decide +kernel
theorem dX12_counted_115 : decode cX12_counted 115 = .ok (.aload_n 0, 1) := by decide +kernel
theorem dX12_counted_116 : decode cX12_counted 116 = .ok (.getfield 7, 3) := by decide +kernel
theorem dX12_counted_119 : decode cX12_counted 119 = .ok (.bipush 115, 2) := by decide +kernel
theorem dX12_counted_121 : decode cX12_counted 121 = .ok (.iaload, 1) := by decide +kernel
theorem dX12_counted_122 : decode cX12_counted 122 = .ok (.ireturn, 1) := by decide +kernel
theorem dX12_counted_123 : decode cX12_counted 123 = .ok (.aload_n 0, 1) := by decide +kernel
theorem dX12_counted_124 : decode cX12_counted 124 = .ok (.getfield 239, 3) := by decide +kernel
theorem dX12_counted_127 : decode cX12_counted 127 = .ok (.ireturn, 1) := by decide +kernel
theorem dX12_count_0 : decode cX12_count 0 = .ok (.iload_n 1, 1) := by decide +kernel
theorem dX12_count_1 : decode cX12_count 1 = .ok (.i2l, 1) := by decide +kernel
theorem dX12_count_2 : decode cX12_count 2 = .ok (.lconst 0, 1) := by decide +kernel
theorem dX12_count_3 : decode cX12_count 3 = .ok (.ldc2_w 298, 3) := by decide +kernel
theorem dX12_count_6 : decode cX12_count 6 = .ok (.invokestatic 56, 3) := by decide +kernel
theorem dX12_count_9 : decode cX12_count 9 = .ok (.ifCond .eq 11, 3) := by decide +kernel
theorem dX12_count_12 : decode cX12_count 12 = .ok (.aload_n 0, 1) := by decide +kernel
theorem dX12_count_13 : decode cX12_count 13 = .ok (.iload_n 1, 1) := by decide +kernel
theorem dX12_count_14 : decode cX12_count 14 = .ok (.invokevirtual 300, 3) := by decide +kernel
theorem dX12_count_17 : decode cX12_count 17 = .ok (.goto 9, 3) := by decide +kernel
theorem dX12_count_20 : decode cX12_count 20 = .ok (.aload_n 0, 1) := by decide +kernel
theorem dX12_count_21 : decode cX12_count 21 = .ok (.bipush (-2), 2) := by decide +kernel
theorem dX12_count_23 : decode cX12_count 23 = .ok (.invokevirtual 64, 3) := by decide +kernel
theorem dX12_count_26 : decode cX12_count 26 = .ok (.ireturn, 1) := by decide +kernel
theorem dX12_sums_0 : decode cX12_sums 0 = .ok (.lload_n 1, 1) := by decide +kernel
theorem dX12_sums_1 : decode cX12_sums 1 = .ok (.lstore 5, 2) := by decide +kernel
theorem dX12_sums_3 : decode cX12_sums 3 = .ok (.iconst 0, 1) := by decide +kernel
theorem dX12_sums_4 : decode cX12_sums 4 = .ok (.istore 7, 2) := by decide +kernel
theorem dX12_sums_6 : decode cX12_sums 6 = .ok (.iload 7, 2) := by decide +kernel
theorem dX12_sums_8 : decode cX12_sums 8 = .ok (.iload 4, 2) := by decide +kernel
theorem dX12_sums_10 : decode cX12_sums 10 = .ok (.if_icmp .ge 28, 3) := by decide +kernel
theorem dX12_sums_13 : decode cX12_sums 13 = .ok (.ldc2_w 303, 3) := by decide +kernel
theorem dX12_sums_16 : decode cX12_sums 16 = .ok (.lload 5, 2) := by decide +kernel
theorem dX12_sums_18 : decode cX12_sums 18 = .ok (.lmul, 1) := by decide +kernel
theorem dX12_sums_19 : decode cX12_sums 19 = .ok (.aload_n 0, 1) := by decide +kernel
theorem dX12_sums_20 : decode cX12_sums 20 = .ok (.getfield 7, 3) := by decide +kernel
theorem dX12_sums_23 : decode cX12_sums 23 = .ok (.iload_n 3, 1) := by decide +kernel
theorem dX12_sums_24 : decode cX12_sums 24 = .ok (.iload 7, 2) := by decide +kernel
theorem dX12_sums_26 : decode cX12_sums 26 = .ok (.iadd, 1) := by decide +kernel
theorem dX12_sums_27 : decode cX12_sums 27 = .ok (.iaload, 1) := by decide +kernel
theorem dX12_sums_28 : decode cX12_sums 28 = .ok (.i2l, 1) := by decide +kernel
theorem dX12_sums_29 : decode cX12_sums 29 = .ok (.ladd, 1) := by decide +kernel
theorem dX12_sums_30 : decode cX12_sums 30 = .ok (.lstore 5, 2) := by decide +kernel
theorem dX12_sums_32 : decode cX12_sums 32 = .ok (.iinc 7 1, 3) := by decide +kernel
theorem dX12_sums_35 : decode cX12_sums 35 = .ok (.goto (-29), 3) := by decide +kernel
theorem dX12_sums_38 : decode cX12_sums 38 = .ok (.lload 5, 2) := by decide +kernel
theorem dX12_sums_40 : decode cX12_sums 40 = .ok (.lreturn, 1) := by decide +kernel
theorem dX12_digest_0 : decode cX12_digest 0 = .ok (.ldc2_w 305, 3) := by decide +kernel
theorem dX12_digest_3 : decode cX12_digest 3 = .ok (.lstore_n 1, 1) := by decide +kernel
theorem dX12_digest_4 : decode cX12_digest 4 = .ok (.iconst 0, 1) := by decide +kernel
theorem dX12_digest_5 : decode cX12_digest 5 = .ok (.istore_n 3, 1) := by decide +kernel
theorem dX12_digest_6 : decode cX12_digest 6 = .ok (.iload_n 3, 1) := by decide +kernel
theorem dX12_digest_7 : decode cX12_digest 7 = .ok (.bipush 14, 2) := by decide +kernel
theorem dX12_digest_9 : decode cX12_digest 9 = .ok (.if_icmp .ge 22, 3) := by decide +kernel
theorem dX12_digest_12 : decode cX12_digest 12 = .ok (.ldc2_w 303, 3) := by decide +kernel
theorem dX12_digest_15 : decode cX12_digest 15 = .ok (.lload_n 1, 1) := by decide +kernel
theorem dX12_digest_16 : decode cX12_digest 16 = .ok (.lmul, 1) := by decide +kernel
theorem dX12_digest_17 : decode cX12_digest 17 = .ok (.aload_n 0, 1) := by decide +kernel
theorem dX12_digest_18 : decode cX12_digest 18 = .ok (.iload_n 3, 1) := by decide +kernel
theorem dX12_digest_19 : decode cX12_digest 19 = .ok (.invokevirtual 300, 3) := by decide +kernel
theorem dX12_digest_22 : decode cX12_digest 22 = .ok (.i2l, 1) := by decide +kernel
theorem dX12_digest_23 : decode cX12_digest 23 = .ok (.ladd, 1) := by decide +kernel
theorem dX12_digest_24 : decode cX12_digest 24 = .ok (.lstore_n 1, 1) := by decide +kernel
theorem dX12_digest_25 : decode cX12_digest 25 = .ok (.iinc 3 1, 3) := by decide +kernel
theorem dX12_digest_28 : decode cX12_digest 28 = .ok (.goto (-22), 3) := by decide +kernel
theorem dX12_digest_31 : decode cX12_digest 31 = .ok (.aload_n 0, 1) := by decide +kernel
theorem dX12_digest_32 : decode cX12_digest 32 = .ok (.lload_n 1, 1) := by decide +kernel
theorem dX12_digest_33 : decode cX12_digest 33 = .ok (.bipush 7, 2) := by decide +kernel
theorem dX12_digest_35 : decode cX12_digest 35 = .ok (.iconst 4, 1) := by decide +kernel
theorem dX12_digest_36 : decode cX12_digest 36 = .ok (.aload_n 0, 1) := by decide +kernel
theorem dX12_digest_37 : decode cX12_digest 37 = .ok (.invokevirtual 52, 3) := by decide +kernel
theorem dX12_digest_40 : decode cX12_digest 40 = .ok (.imul, 1) := by decide +kernel
theorem dX12_digest_41 : decode cX12_digest 41 = .ok (.invokevirtual 307, 3) := by decide +kernel
theorem dX12_digest_44 : decode cX12_digest 44 = .ok (.lstore_n 1, 1) := by decide +kernel
theorem dX12_digest_45 : decode cX12_digest 45 = .ok (.ldc2_w 303, 3) := by decide +kernel
theorem dX12_digest_48 : decode cX12_digest 48 = .ok (.lload_n 1, 1) := by decide +kernel
theorem dX12_digest_49 : decode cX12_digest 49 = .ok (.lmul, 1) := by decide +kernel
theorem dX12_digest_50 : decode cX12_digest 50 = .ok (.aload_n 0, 1) := by decide +kernel
theorem dX12_digest_51 : decode cX12_digest 51 = .ok (.getfield 7, 3) := by decide +kernel
theorem dX12_digest_54 : decode cX12_digest 54 = .ok (.bipush 58, 2) := by decide +kernel
theorem dX12_digest_56 : decode cX12_digest 56 = .ok (.iaload, 1) := by decide +kernel
theorem dX12_digest_57 : decode cX12_digest 57 = .ok (.i2l, 1) := by decide +kernel
theorem dX12_digest_58 : decode cX12_digest 58 = .ok (.ladd, 1) := by decide +kernel
theorem dX12_digest_59 : decode cX12_digest 59 = .ok (.lstore_n 1, 1) := by decide +kernel
theorem dX12_digest_60 : decode cX12_digest 60 = .ok (.aload_n 0, 1) := by decide +kernel
theorem dX12_digest_61 : decode cX12_digest 61 = .ok (.lload_n 1, 1) := by decide +kernel
theorem dX12_digest_62 : decode cX12_digest 62 = .ok (.bipush 34, 2) := by decide +kernel
theorem dX12_digest_64 : decode cX12_digest 64 = .ok (.iconst 3, 1) := by decide +kernel
theorem dX12_digest_65 : decode cX12_digest 65 = .ok (.aload_n 0, 1) := by decide +kernel
theorem dX12_digest_66 : decode cX12_digest 66 = .ok (.getfield 7, 3) := by decide +kernel
theorem dX12_digest_69 : decode cX12_digest 69 = .ok (.bipush 33, 2) := by decide +kernel
theorem dX12_digest_71 : decode cX12_digest 71 = .ok (.iaload, 1) := by decide +kernel
theorem dX12_digest_72 : decode cX12_digest 72 = .ok (.imul, 1) := by decide +kernel
theorem dX12_digest_73 : decode cX12_digest 73 = .ok (.invokevirtual 307, 3) := by decide +kernel
theorem dX12_digest_76 : decode cX12_digest 76 = .ok (.lstore_n 1, 1) := by decide +kernel
theorem dX12_digest_77 : decode cX12_digest 77 = .ok (.aload_n 0, 1) := by decide +kernel
theorem dX12_digest_78 : decode cX12_digest 78 = .ok (.lload_n 1, 1) := by decide +kernel
theorem dX12_digest_79 : decode cX12_digest 79 = .ok (.bipush 60, 2) := by decide +kernel
theorem dX12_digest_81 : decode cX12_digest 81 = .ok (.iconst 3, 1) := by decide +kernel
theorem dX12_digest_82 : decode cX12_digest 82 = .ok (.aload_n 0, 1) := by decide +kernel
theorem dX12_digest_83 : decode cX12_digest 83 = .ok (.getfield 7, 3) := by decide +kernel
theorem dX12_digest_86 : decode cX12_digest 86 = .ok (.bipush 59, 2) := by decide +kernel
theorem dX12_digest_88 : decode cX12_digest 88 = .ok (.iaload, 1) := by decide +kernel
theorem dX12_digest_89 : decode cX12_digest 89 = .ok (.imul, 1) := by decide +kernel
theorem dX12_digest_90 : decode cX12_digest 90 = .ok (.invokevirtual 307, 3) := by decide +kernel
theorem dX12_digest_93 : decode cX12_digest 93 = .ok (.lstore_n 1, 1) := by decide +kernel
theorem dX12_digest_94 : decode cX12_digest 94 = .ok (.aload_n 0, 1) := by decide +kernel
theorem dX12_digest_95 : decode cX12_digest 95 = .ok (.lload_n 1, 1) := by decide +kernel
theorem dX12_digest_96 : decode cX12_digest 96 = .ok (.bipush 91, 2) := by decide +kernel
theorem dX12_digest_98 : decode cX12_digest 98 = .ok (.bipush 6, 2) := by decide +kernel
theorem dX12_digest_100 : decode cX12_digest 100 = .ok (.aload_n 0, 1) := by decide +kernel
theorem dX12_digest_101 : decode cX12_digest 101 = .ok (.getfield 7, 3) := by decide +kernel
theorem dX12_digest_104 : decode cX12_digest 104 = .ok (.bipush 90, 2) := by decide +kernel
theorem dX12_digest_106 : decode cX12_digest 106 = .ok (.iaload, 1) := by decide +kernel
theorem dX12_digest_107 : decode cX12_digest 107 = .ok (.imul, 1) := by decide +kernel
theorem dX12_digest_108 : decode cX12_digest 108 = .ok (.invokevirtual 307, 3) := by decide +kernel
theorem dX12_digest_111 : decode cX12_digest 111 = .ok (.lstore_n 1, 1) := by decide +kernel
theorem dX12_digest_112 : decode cX12_digest 112 = .ok (.ldc2_w 303, 3) := by decide +kernel
theorem dX12_digest_115 : decode cX12_digest 115 = .ok (.ldc2_w 303, 3) := by decide +kernel
theorem dX12_digest_118 : decode cX12_digest 118 = .ok (.lload_n 1, 1) := by decide +kernel
theorem dX12_digest_119 : decode cX12_digest 119 = .ok (.lmul, 1) := by decide +kernel
theorem dX12_digest_120 : decode cX12_digest 120 = .ok (.aload_n 0, 1) := by decide +kernel
theorem dX12_digest_121 : decode cX12_digest 121 = .ok (.getfield 161, 3) := by decide +kernel
theorem dX12_digest_124 : decode cX12_digest 124 = .ok (.ladd, 1) := by decide +kernel
theorem dX12_digest_125 : decode cX12_digest 125 = .ok (.lmul, 1) := by decide +kernel
theorem dX12_digest_126 : decode cX12_digest 126 = .ok (.aload_n 0, 1) := by decide +kernel
theorem dX12_digest_127 : decode cX12_digest 127 = .ok (.getfield 23, 3) := by decide +kernel
theorem dX12_digest_130 : decode cX12_digest 130 = .ok (.ladd, 1) := by decide +kernel
theorem dX12_digest_131 : decode cX12_digest 131 = .ok (.lreturn, 1) := by decide +kernel
theorem dJ6_numberOfTrailingZeros_0f7a4_0 : decode cJ6_numberOfTrailingZeros_0f7a4 0 = .ok (.iload_n 0, 1) := by decide +kernel
theorem dJ6_numberOfTrailingZeros_0f7a4_1 : decode cJ6_numberOfTrailingZeros_0f7a4 1 = .ok (.iconst (-1), 1) := by decide +kernel
theorem dJ6_numberOfTrailingZeros_0f7a4_2 : decode cJ6_numberOfTrailingZeros_0f7a4 2 = .ok (.ixor, 1) := by decide +kernel
theorem dJ6_numberOfTrailingZeros_0f7a4_3 : decode cJ6_numberOfTrailingZeros_0f7a4 3 = .ok (.iload_n 0, 1) := by decide +kernel
theorem dJ6_numberOfTrailingZeros_0f7a4_4 : decode cJ6_numberOfTrailingZeros_0f7a4 4 = .ok (.iconst 1, 1) := by decide +kernel
theorem dJ6_numberOfTrailingZeros_0f7a4_5 : decode cJ6_numberOfTrailingZeros_0f7a4 5 = .ok (.isub, 1) := by decide +kernel
theorem dJ6_numberOfTrailingZeros_0f7a4_6 : decode cJ6_numberOfTrailingZeros_0f7a4 6 = .ok (.iand, 1) := by decide +kernel
theorem dJ6_numberOfTrailingZeros_0f7a4_7 : decode cJ6_numberOfTrailingZeros_0f7a4 7 = .ok (.istore_n 0, 1) := by decide +kernel
theorem dJ6_numberOfTrailingZeros_0f7a4_8 : decode cJ6_numberOfTrailingZeros_0f7a4 8 = .ok (.iload_n 0, 1) := by decide +kernel
theorem dJ6_numberOfTrailingZeros_0f7a4_9 : decode cJ6_numberOfTrailingZeros_0f7a4 9 = .ok (.ifCond .gt 8, 3) := by decide +kernel
theorem dJ6_numberOfTrailingZeros_0f7a4_12 : decode cJ6_numberOfTrailingZeros_0f7a4 12 = .ok (.iload_n 0, 1) := by decide +kernel
theorem dJ6_numberOfTrailingZeros_0f7a4_13 : decode cJ6_numberOfTrailingZeros_0f7a4 13 = .ok (.bipush 32, 2) := by decide +kernel
theorem dJ6_numberOfTrailingZeros_0f7a4_15 : decode cJ6_numberOfTrailingZeros_0f7a4 15 = .ok (.iand, 1) := by decide +kernel
theorem dJ6_numberOfTrailingZeros_0f7a4_16 : decode cJ6_numberOfTrailingZeros_0f7a4 16 = .ok (.ireturn, 1) := by decide +kernel
theorem dJ6_numberOfTrailingZeros_0f7a4_17 : decode cJ6_numberOfTrailingZeros_0f7a4 17 = .ok (.iconst 1, 1) := by decide +kernel
theorem dJ6_numberOfTrailingZeros_0f7a4_18 : decode cJ6_numberOfTrailingZeros_0f7a4 18 = .ok (.istore_n 1, 1) := by decide +kernel
theorem dJ6_numberOfTrailingZeros_0f7a4_19 : decode cJ6_numberOfTrailingZeros_0f7a4 19 = .ok (.iload_n 0, 1) := by decide +kernel
theorem dJ6_numberOfTrailingZeros_0f7a4_20 : decode cJ6_numberOfTrailingZeros_0f7a4 20 = .ok (.ldc_w 264, 3) := by decide +kernel
theorem dJ6_numberOfTrailingZeros_0f7a4_23 : decode cJ6_numberOfTrailingZeros_0f7a4 23 = .ok (.if_icmp .le 11, 3) := by decide +kernel
theorem dJ6_numberOfTrailingZeros_0f7a4_26 : decode cJ6_numberOfTrailingZeros_0f7a4 26 = .ok (.iinc 1 16, 3) := by decide +kernel
theorem dJ6_numberOfTrailingZeros_0f7a4_29 : decode cJ6_numberOfTrailingZeros_0f7a4 29 = .ok (.iload_n 0, 1) := by decide +kernel
theorem dJ6_numberOfTrailingZeros_0f7a4_30 : decode cJ6_numberOfTrailingZeros_0f7a4 30 = .ok (.bipush 16, 2) := by decide +kernel
theorem dJ6_numberOfTrailingZeros_0f7a4_32 : decode cJ6_numberOfTrailingZeros_0f7a4 32 = .ok (.iushr, 1) := by decide +kernel
theorem dJ6_numberOfTrailingZeros_0f7a4_33 : decode cJ6_numberOfTrailingZeros_0f7a4 33 = .ok (.istore_n 0, 1) := by decide +kernel
theorem dJ6_numberOfTrailingZeros_0f7a4_34 : decode cJ6_numberOfTrailingZeros_0f7a4 34 = .ok (.iload_n 0, 1) := by decide +kernel
theorem dJ6_numberOfTrailingZeros_0f7a4_35 : decode cJ6_numberOfTrailingZeros_0f7a4 35 = .ok (.sipush 256, 3) := by decide +kernel
theorem dJ6_numberOfTrailingZeros_0f7a4_38 : decode cJ6_numberOfTrailingZeros_0f7a4 38 = .ok (.if_icmp .le 11, 3) := by decide +kernel
theorem dJ6_numberOfTrailingZeros_0f7a4_41 : decode cJ6_numberOfTrailingZeros_0f7a4 41 = .ok (.iinc 1 8, 3) := by decide +kernel
theorem dJ6_numberOfTrailingZeros_0f7a4_44 : decode cJ6_numberOfTrailingZeros_0f7a4 44 = .ok (.iload_n 0, 1) := by decide +kernel
theorem dJ6_numberOfTrailingZeros_0f7a4_45 : decode cJ6_numberOfTrailingZeros_0f7a4 45 = .ok (.bipush 8, 2) := by decide +kernel
theorem dJ6_numberOfTrailingZeros_0f7a4_47 : decode cJ6_numberOfTrailingZeros_0f7a4 47 = .ok (.iushr, 1) := by decide +kernel
theorem dJ6_numberOfTrailingZeros_0f7a4_48 : decode cJ6_numberOfTrailingZeros_0f7a4 48 = .ok (.istore_n 0, 1) := by decide +kernel
theorem dJ6_numberOfTrailingZeros_0f7a4_49 : decode cJ6_numberOfTrailingZeros_0f7a4 49 = .ok (.iload_n 0, 1) := by decide +kernel
theorem dJ6_numberOfTrailingZeros_0f7a4_50 : decode cJ6_numberOfTrailingZeros_0f7a4 50 = .ok (.bipush 16, 2) := by decide +kernel
theorem dJ6_numberOfTrailingZeros_0f7a4_52 : decode cJ6_numberOfTrailingZeros_0f7a4 52 = .ok (.if_icmp .le 10, 3) := by decide +kernel
theorem dJ6_numberOfTrailingZeros_0f7a4_55 : decode cJ6_numberOfTrailingZeros_0f7a4 55 = .ok (.iinc 1 4, 3) := by decide +kernel
theorem dJ6_numberOfTrailingZeros_0f7a4_58 : decode cJ6_numberOfTrailingZeros_0f7a4 58 = .ok (.iload_n 0, 1) := by decide +kernel
theorem dJ6_numberOfTrailingZeros_0f7a4_59 : decode cJ6_numberOfTrailingZeros_0f7a4 59 = .ok (.iconst 4, 1) := by decide +kernel
theorem dJ6_numberOfTrailingZeros_0f7a4_60 : decode cJ6_numberOfTrailingZeros_0f7a4 60 = .ok (.iushr, 1) := by decide +kernel
theorem dJ6_numberOfTrailingZeros_0f7a4_61 : decode cJ6_numberOfTrailingZeros_0f7a4 61 = .ok (.istore_n 0, 1) := by decide +kernel
theorem dJ6_numberOfTrailingZeros_0f7a4_62 : decode cJ6_numberOfTrailingZeros_0f7a4 62 = .ok (.iload_n 0, 1) := by decide +kernel
theorem dJ6_numberOfTrailingZeros_0f7a4_63 : decode cJ6_numberOfTrailingZeros_0f7a4 63 = .ok (.iconst 4, 1) := by decide +kernel
theorem dJ6_numberOfTrailingZeros_0f7a4_64 : decode cJ6_numberOfTrailingZeros_0f7a4 64 = .ok (.if_icmp .le 10, 3) := by decide +kernel
theorem dJ6_numberOfTrailingZeros_0f7a4_67 : decode cJ6_numberOfTrailingZeros_0f7a4 67 = .ok (.iinc 1 2, 3) := by decide +kernel
theorem dJ6_numberOfTrailingZeros_0f7a4_70 : decode cJ6_numberOfTrailingZeros_0f7a4 70 = .ok (.iload_n 0, 1) := by decide +kernel
theorem dJ6_numberOfTrailingZeros_0f7a4_71 : decode cJ6_numberOfTrailingZeros_0f7a4 71 = .ok (.iconst 2, 1) := by decide +kernel
theorem dJ6_numberOfTrailingZeros_0f7a4_72 : decode cJ6_numberOfTrailingZeros_0f7a4 72 = .ok (.iushr, 1) := by decide +kernel
theorem dJ6_numberOfTrailingZeros_0f7a4_73 : decode cJ6_numberOfTrailingZeros_0f7a4 73 = .ok (.istore_n 0, 1) := by decide +kernel
theorem dJ6_numberOfTrailingZeros_0f7a4_74 : decode cJ6_numberOfTrailingZeros_0f7a4 74 = .ok (.iload_n 1, 1) := by decide +kernel
theorem dJ6_numberOfTrailingZeros_0f7a4_75 : decode cJ6_numberOfTrailingZeros_0f7a4 75 = .ok (.iload_n 0, 1) := by decide +kernel
theorem dJ6_numberOfTrailingZeros_0f7a4_76 : decode cJ6_numberOfTrailingZeros_0f7a4 76 = .ok (.iconst 1, 1) := by decide +kernel
theorem dJ6_numberOfTrailingZeros_0f7a4_77 : decode cJ6_numberOfTrailingZeros_0f7a4 77 = .ok (.iushr, 1) := by decide +kernel
theorem dJ6_numberOfTrailingZeros_0f7a4_78 : decode cJ6_numberOfTrailingZeros_0f7a4 78 = .ok (.iadd, 1) := by decide +kernel
theorem dJ6_numberOfTrailingZeros_0f7a4_79 : decode cJ6_numberOfTrailingZeros_0f7a4 79 = .ok (.ireturn, 1) := by decide +kernel
theorem dJ6_bitCount_0f7a4_0 : decode cJ6_bitCount_0f7a4 0 = .ok (.iload_n 0, 1) := by decide +kernel
theorem dJ6_bitCount_0f7a4_1 : decode cJ6_bitCount_0f7a4 1 = .ok (.iload_n 0, 1) := by decide +kernel
theorem dJ6_bitCount_0f7a4_2 : decode cJ6_bitCount_0f7a4 2 = .ok (.iconst 1, 1) := by decide +kernel
theorem dJ6_bitCount_0f7a4_3 : decode cJ6_bitCount_0f7a4 3 = .ok (.iushr, 1) := by decide +kernel
theorem dJ6_bitCount_0f7a4_4 : decode cJ6_bitCount_0f7a4 4 = .ok (.ldc_w 265, 3) := by decide +kernel
theorem dJ6_bitCount_0f7a4_7 : decode cJ6_bitCount_0f7a4 7 = .ok (.iand, 1) := by decide +kernel
theorem dJ6_bitCount_0f7a4_8 : decode cJ6_bitCount_0f7a4 8 = .ok (.isub, 1) := by decide +kernel
theorem dJ6_bitCount_0f7a4_9 : decode cJ6_bitCount_0f7a4 9 = .ok (.istore_n 0, 1) := by decide +kernel
theorem dJ6_bitCount_0f7a4_10 : decode cJ6_bitCount_0f7a4 10 = .ok (.iload_n 0, 1) := by decide +kernel
theorem dJ6_bitCount_0f7a4_11 : decode cJ6_bitCount_0f7a4 11 = .ok (.ldc_w 266, 3) := by decide +kernel
theorem dJ6_bitCount_0f7a4_14 : decode cJ6_bitCount_0f7a4 14 = .ok (.iand, 1) := by decide +kernel
theorem dJ6_bitCount_0f7a4_15 : decode cJ6_bitCount_0f7a4 15 = .ok (.iload_n 0, 1) := by decide +kernel
theorem dJ6_bitCount_0f7a4_16 : decode cJ6_bitCount_0f7a4 16 = .ok (.iconst 2, 1) := by decide +kernel
theorem dJ6_bitCount_0f7a4_17 : decode cJ6_bitCount_0f7a4 17 = .ok (.iushr, 1) := by decide +kernel
theorem dJ6_bitCount_0f7a4_18 : decode cJ6_bitCount_0f7a4 18 = .ok (.ldc_w 266, 3) := by decide +kernel
theorem dJ6_bitCount_0f7a4_21 : decode cJ6_bitCount_0f7a4 21 = .ok (.iand, 1) := by decide +kernel
theorem dJ6_bitCount_0f7a4_22 : decode cJ6_bitCount_0f7a4 22 = .ok (.iadd, 1) := by decide +kernel
theorem dJ6_bitCount_0f7a4_23 : decode cJ6_bitCount_0f7a4 23 = .ok (.istore_n 0, 1) := by decide +kernel
theorem dJ6_bitCount_0f7a4_24 : decode cJ6_bitCount_0f7a4 24 = .ok (.iload_n 0, 1) := by decide +kernel
theorem dJ6_bitCount_0f7a4_25 : decode cJ6_bitCount_0f7a4 25 = .ok (.iload_n 0, 1) := by decide +kernel
theorem dJ6_bitCount_0f7a4_26 : decode cJ6_bitCount_0f7a4 26 = .ok (.iconst 4, 1) := by decide +kernel
theorem dJ6_bitCount_0f7a4_27 : decode cJ6_bitCount_0f7a4 27 = .ok (.iushr, 1) := by decide +kernel
theorem dJ6_bitCount_0f7a4_28 : decode cJ6_bitCount_0f7a4 28 = .ok (.iadd, 1) := by decide +kernel
theorem dJ6_bitCount_0f7a4_29 : decode cJ6_bitCount_0f7a4 29 = .ok (.ldc_w 267, 3) := by decide +kernel
theorem dJ6_bitCount_0f7a4_32 : decode cJ6_bitCount_0f7a4 32 = .ok (.iand, 1) := by decide +kernel
theorem dJ6_bitCount_0f7a4_33 : decode cJ6_bitCount_0f7a4 33 = .ok (.istore_n 0, 1) := by decide +kernel
theorem dJ6_bitCount_0f7a4_34 : decode cJ6_bitCount_0f7a4 34 = .ok (.iload_n 0, 1) := by decide +kernel
theorem dJ6_bitCount_0f7a4_35 : decode cJ6_bitCount_0f7a4 35 = .ok (.iload_n 0, 1) := by decide +kernel
theorem dJ6_bitCount_0f7a4_36 : decode cJ6_bitCount_0f7a4 36 = .ok (.bipush 8, 2) := by decide +kernel
theorem dJ6_bitCount_0f7a4_38 : decode cJ6_bitCount_0f7a4 38 = .ok (.iushr, 1) := by decide +kernel
theorem dJ6_bitCount_0f7a4_39 : decode cJ6_bitCount_0f7a4 39 = .ok (.iadd, 1) := by decide +kernel
theorem dJ6_bitCount_0f7a4_40 : decode cJ6_bitCount_0f7a4 40 = .ok (.istore_n 0, 1) := by decide +kernel
theorem dJ6_bitCount_0f7a4_41 : decode cJ6_bitCount_0f7a4 41 = .ok (.iload_n 0, 1) := by decide +kernel
theorem dJ6_bitCount_0f7a4_42 : decode cJ6_bitCount_0f7a4 42 = .ok (.iload_n 0, 1) := by decide +kernel
theorem dJ6_bitCount_0f7a4_43 : decode cJ6_bitCount_0f7a4 43 = .ok (.bipush 16, 2) := by decide +kernel
theorem dJ6_bitCount_0f7a4_45 : decode cJ6_bitCount_0f7a4 45 = .ok (.iushr, 1) := by decide +kernel
theorem dJ6_bitCount_0f7a4_46 : decode cJ6_bitCount_0f7a4 46 = .ok (.iadd, 1) := by decide +kernel
theorem dJ6_bitCount_0f7a4_47 : decode cJ6_bitCount_0f7a4 47 = .ok (.istore_n 0, 1) := by decide +kernel
theorem dJ6_bitCount_0f7a4_48 : decode cJ6_bitCount_0f7a4 48 = .ok (.iload_n 0, 1) := by decide +kernel
theorem dJ6_bitCount_0f7a4_49 : decode cJ6_bitCount_0f7a4 49 = .ok (.bipush 63, 2) := by decide +kernel
theorem dJ6_bitCount_0f7a4_51 : decode cJ6_bitCount_0f7a4 51 = .ok (.iand, 1) := by decide +kernel
theorem dJ6_bitCount_0f7a4_52 : decode cJ6_bitCount_0f7a4 52 = .ok (.ireturn, 1) := by decide +kernel
theorem dJ9_floorMod_7cf53_0 : decode cJ9_floorMod_7cf53 0 = .ok (.iload_n 0, 1) := by decide +kernel
theorem dJ9_floorMod_7cf53_1 : decode cJ9_floorMod_7cf53 1 = .ok (.iload_n 1, 1) := by decide +kernel
theorem dJ9_floorMod_7cf53_2 : decode cJ9_floorMod_7cf53 2 = .ok (.irem, 1) := by decide +kernel
theorem dJ9_floorMod_7cf53_3 : decode cJ9_floorMod_7cf53 3 = .ok (.istore_n 2, 1) := by decide +kernel
theorem dJ9_floorMod_7cf53_4 : decode cJ9_floorMod_7cf53 4 = .ok (.iload_n 0, 1) := by decide +kernel
theorem dJ9_floorMod_7cf53_5 : decode cJ9_floorMod_7cf53 5 = .ok (.iload_n 1, 1) := by decide +kernel
theorem dJ9_floorMod_7cf53_6 : decode cJ9_floorMod_7cf53 6 = .ok (.ixor, 1) := by decide +kernel
theorem dJ9_floorMod_7cf53_7 : decode cJ9_floorMod_7cf53 7 = .ok (.ifCond .ge 11, 3) := by decide +kernel
theorem dJ9_floorMod_7cf53_10 : decode cJ9_floorMod_7cf53 10 = .ok (.iload_n 2, 1) := by decide +kernel
theorem dJ9_floorMod_7cf53_11 : decode cJ9_floorMod_7cf53 11 = .ok (.ifCond .eq 7, 3) := by decide +kernel
theorem dJ9_floorMod_7cf53_14 : decode cJ9_floorMod_7cf53 14 = .ok (.iload_n 2, 1) := by decide +kernel
theorem dJ9_floorMod_7cf53_15 : decode cJ9_floorMod_7cf53 15 = .ok (.iload_n 1, 1) := by decide +kernel
theorem dJ9_floorMod_7cf53_16 : decode cJ9_floorMod_7cf53 16 = .ok (.iadd, 1) := by decide +kernel
theorem dJ9_floorMod_7cf53_17 : decode cJ9_floorMod_7cf53 17 = .ok (.ireturn, 1) := by decide +kernel
theorem dJ9_floorMod_7cf53_18 : decode cJ9_floorMod_7cf53 18 = .ok (.iload_n 2, 1) := by decide +kernel
theorem dJ9_floorMod_7cf53_19 : decode cJ9_floorMod_7cf53 19 = .ok (.ireturn, 1) := by decide +kernel
theorem dJ9_max_7cf53_0 : decode cJ9_max_7cf53 0 = .ok (.iload_n 0, 1) := by decide +kernel
theorem dJ9_max_7cf53_1 : decode cJ9_max_7cf53 1 = .ok (.iload_n 1, 1) := by decide +kernel
theorem dJ9_max_7cf53_2 : decode cJ9_max_7cf53 2 = .ok (.if_icmp .lt 7, 3) := by decide +kernel
theorem dJ9_max_7cf53_5 : decode cJ9_max_7cf53 5 = .ok (.iload_n 0, 1) := by decide +kernel
theorem dJ9_max_7cf53_6 : decode cJ9_max_7cf53 6 = .ok (.goto 4, 3) := by decide +kernel
theorem dJ9_max_7cf53_9 : decode cJ9_max_7cf53 9 = .ok (.iload_n 1, 1) := by decide +kernel
theorem dJ9_max_7cf53_10 : decode cJ9_max_7cf53 10 = .ok (.ireturn, 1) := by decide +kernel
theorem dJ9_min_7cf53_0 : decode cJ9_min_7cf53 0 = .ok (.iload_n 0, 1) := by decide +kernel
theorem dJ9_min_7cf53_1 : decode cJ9_min_7cf53 1 = .ok (.iload_n 1, 1) := by decide +kernel
theorem dJ9_min_7cf53_2 : decode cJ9_min_7cf53 2 = .ok (.if_icmp .gt 7, 3) := by decide +kernel
theorem dJ9_min_7cf53_5 : decode cJ9_min_7cf53 5 = .ok (.iload_n 0, 1) := by decide +kernel
theorem dJ9_min_7cf53_6 : decode cJ9_min_7cf53 6 = .ok (.goto 4, 3) := by decide +kernel
theorem dJ9_min_7cf53_9 : decode cJ9_min_7cf53 9 = .ok (.iload_n 1, 1) := by decide +kernel
theorem dJ9_min_7cf53_10 : decode cJ9_min_7cf53 10 = .ok (.ireturn, 1) := by decide +kernel
theorem dJ0_length_8abf5_0 : decode cJ0_length_8abf5 0 = .ok (.aload_n 0, 1) := by decide +kernel
theorem dJ0_length_8abf5_1 : decode cJ0_length_8abf5 1 = .ok (.getfield 9, 3) := by decide +kernel
theorem dJ0_length_8abf5_4 : decode cJ0_length_8abf5 4 = .ok (.arraylength, 1) := by decide +kernel
theorem dJ0_length_8abf5_5 : decode cJ0_length_8abf5 5 = .ok (.aload_n 0, 1) := by decide +kernel
theorem dJ0_length_8abf5_6 : decode cJ0_length_8abf5 6 = .ok (.invokevirtual 335, 3) := by decide +kernel
theorem dJ0_length_8abf5_9 : decode cJ0_length_8abf5 9 = .ok (.ishr, 1) := by decide +kernel
theorem dJ0_length_8abf5_10 : decode cJ0_length_8abf5 10 = .ok (.ireturn, 1) := by decide +kernel
theorem dJ0_charAt_5068e_0 : decode cJ0_charAt_5068e 0 = .ok (.aload_n 0, 1) := by decide +kernel
theorem dJ0_charAt_5068e_1 : decode cJ0_charAt_5068e 1 = .ok (.invokevirtual 492, 3) := by decide +kernel
theorem dJ0_charAt_5068e_4 : decode cJ0_charAt_5068e 4 = .ok (.ifCond .eq 12, 3) := by decide +kernel
theorem dJ0_charAt_5068e_7 : decode cJ0_charAt_5068e 7 = .ok (.aload_n 0, 1) := by decide +kernel
theorem dJ0_charAt_5068e_8 : decode cJ0_charAt_5068e 8 = .ok (.getfield 9, 3) := by decide +kernel
theorem dJ0_charAt_5068e_11 : decode cJ0_charAt_5068e 11 = .ok (.iload_n 1, 1) := by decide +kernel
theorem dJ0_charAt_5068e_12 : decode cJ0_charAt_5068e 12 = .ok (.invokestatic 495, 3) := by decide +kernel
theorem dJ0_charAt_5068e_15 : decode cJ0_charAt_5068e 15 = .ok (.ireturn, 1) := by decide +kernel
theorem dJ0_charAt_5068e_16 : decode cJ0_charAt_5068e 16 = .ok (.aload_n 0, 1) := by decide +kernel
theorem dJ0_charAt_5068e_17 : decode cJ0_charAt_5068e 17 = .ok (.getfield 9, 3) := by decide +kernel
theorem dJ0_charAt_5068e_20 : decode cJ0_charAt_5068e 20 = .ok (.iload_n 1, 1) := by decide +kernel
theorem dJ0_charAt_5068e_21 : decode cJ0_charAt_5068e 21 = .ok (.invokestatic 498, 3) := by decide +kernel
theorem dJ0_charAt_5068e_24 : decode cJ0_charAt_5068e 24 = .ok (.ireturn, 1) := by decide +kernel
theorem dJ0_coder_7d493_0 : decode cJ0_coder_7d493 0 = .ok (.getstatic 38, 3) := by decide +kernel
theorem dJ0_coder_7d493_3 : decode cJ0_coder_7d493 3 = .ok (.ifCond .eq 10, 3) := by decide +kernel
theorem dJ0_coder_7d493_6 : decode cJ0_coder_7d493 6 = .ok (.aload_n 0, 1) := by decide +kernel
theorem dJ0_coder_7d493_7 : decode cJ0_coder_7d493 7 = .ok (.getfield 15, 3) := by decide +kernel
theorem dJ0_coder_7d493_10 : decode cJ0_coder_7d493 10 = .ok (.goto 4, 3) := by decide +kernel
theorem dJ0_coder_7d493_13 : decode cJ0_coder_7d493 13 = .ok (.iconst 1, 1) := by decide +kernel
theorem dJ0_coder_7d493_14 : decode cJ0_coder_7d493 14 = .ok (.ireturn, 1) := by decide +kernel
theorem dJ0_isLatin1_aae02_0 : decode cJ0_isLatin1_aae02 0 = .ok (.getstatic 38, 3) := by decide +kernel
theorem dJ0_isLatin1_aae02_3 : decode cJ0_isLatin1_aae02 3 = .ok (.ifCond .eq 14, 3) := by decide +kernel
theorem dJ0_isLatin1_aae02_6 : decode cJ0_isLatin1_aae02 6 = .ok (.aload_n 0, 1) := by decide +kernel
theorem dJ0_isLatin1_aae02_7 : decode cJ0_isLatin1_aae02 7 = .ok (.getfield 15, 3) := by decide +kernel
theorem dJ0_isLatin1_aae02_10 : decode cJ0_isLatin1_aae02 10 = .ok (.ifCond .ne 7, 3) := by decide +kernel
theorem dJ0_isLatin1_aae02_13 : decode cJ0_isLatin1_aae02 13 = .ok (.iconst 1, 1) := by decide +kernel
theorem dJ0_isLatin1_aae02_14 : decode cJ0_isLatin1_aae02 14 = .ok (.goto 4, 3) := by decide +kernel
theorem dJ0_isLatin1_aae02_17 : decode cJ0_isLatin1_aae02 17 = .ok (.iconst 0, 1) := by decide +kernel
theorem dJ0_isLatin1_aae02_18 : decode cJ0_isLatin1_aae02 18 = .ok (.ireturn, 1) := by decide +kernel
theorem dJ0_checkIndex_df160_0 : decode cJ0_checkIndex_df160 0 = .ok (.iload_n 0, 1) := by decide +kernel
theorem dJ0_checkIndex_df160_1 : decode cJ0_checkIndex_df160 1 = .ok (.iload_n 1, 1) := by decide +kernel
theorem dJ0_checkIndex_df160_2 : decode cJ0_checkIndex_df160 2 = .ok (.getstatic 1053, 3) := by decide +kernel
theorem dJ0_checkIndex_df160_5 : decode cJ0_checkIndex_df160 5 = .ok (.invokestatic 1059, 3) := by decide +kernel
theorem dJ0_checkIndex_df160_8 : decode cJ0_checkIndex_df160 8 = .ok (.pop, 1) := by decide +kernel
theorem dJ0_checkIndex_df160_9 : decode cJ0_checkIndex_df160 9 = .ok (.return_, 1) := by decide +kernel
theorem dJ1_charAt_3b067_0 : decode cJ1_charAt_3b067 0 = .ok (.iload_n 1, 1) := by decide +kernel
theorem dJ1_charAt_3b067_1 : decode cJ1_charAt_3b067 1 = .ok (.aload_n 0, 1) := by decide +kernel
theorem dJ1_charAt_3b067_2 : decode cJ1_charAt_3b067 2 = .ok (.arraylength, 1) := by decide +kernel
theorem dJ1_charAt_3b067_3 : decode cJ1_charAt_3b067 3 = .ok (.invokestatic 9, 3) := by decide +kernel
theorem dJ1_charAt_3b067_6 : decode cJ1_charAt_3b067 6 = .ok (.aload_n 0, 1) := by decide +kernel
theorem dJ1_charAt_3b067_7 : decode cJ1_charAt_3b067 7 = .ok (.iload_n 1, 1) := by decide +kernel
theorem dJ1_charAt_3b067_8 : decode cJ1_charAt_3b067 8 = .ok (.baload, 1) := by decide +kernel
theorem dJ1_charAt_3b067_9 : decode cJ1_charAt_3b067 9 = .ok (.sipush 255, 3) := by decide +kernel
theorem dJ1_charAt_3b067_12 : decode cJ1_charAt_3b067 12 = .ok (.iand, 1) := by decide +kernel
theorem dJ1_charAt_3b067_13 : decode cJ1_charAt_3b067 13 = .ok (.i2c, 1) := by decide +kernel
theorem dJ1_charAt_3b067_14 : decode cJ1_charAt_3b067 14 = .ok (.ireturn, 1) := by decide +kernel
theorem dJ2_getChar_3b067_0 : decode cJ2_getChar_3b067 0 = .ok (.getstatic 44, 3) := by decide +kernel
theorem dJ2_getChar_3b067_3 : decode cJ2_getChar_3b067 3 = .ok (.ifCond .ne 25, 3) := by decide +kernel
theorem dJ2_getChar_3b067_6 : decode cJ2_getChar_3b067 6 = .ok (.iload_n 1, 1) := by decide +kernel
theorem dJ2_getChar_3b067_7 : decode cJ2_getChar_3b067 7 = .ok (.ifCond .lt 11, 3) := by decide +kernel
theorem dJ2_getChar_3b067_10 : decode cJ2_getChar_3b067 10 = .ok (.iload_n 1, 1) := by decide +kernel
theorem dJ2_getChar_3b067_11 : decode cJ2_getChar_3b067 11 = .ok (.aload_n 0, 1) := by decide +kernel
theorem dJ2_getChar_3b067_12 : decode cJ2_getChar_3b067 12 = .ok (.invokestatic 48, 3) := by decide +kernel
theorem dJ2_getChar_3b067_15 : decode cJ2_getChar_3b067 15 = .ok (.if_icmp .lt 13, 3) := by decide +kernel
theorem dJ2_getChar_3b067_18 : decode cJ2_getChar_3b067 18 = .ok (.new 52, 3) := by decide +kernel
theorem dJ2_getChar_3b067_21 : decode cJ2_getChar_3b067 21 = .ok (.dup, 1) := by decide +kernel
theorem dJ2_getChar_3b067_22 : decode cJ2_getChar_3b067 22 = .ok (.ldc 54, 2) := by decide +kernel
theorem dJ2_getChar_3b067_24 : decode cJ2_getChar_3b067 24 = .ok (.invokespecial 56, 3) := by decide +kernel
theorem dJ2_getChar_3b067_27 : decode cJ2_getChar_3b067 27 = .ok (.athrow, 1) := by decide +kernel
theorem dJ2_getChar_3b067_28 : decode cJ2_getChar_3b067 28 = .ok (.iload_n 1, 1) := by decide +kernel
theorem dJ2_getChar_3b067_29 : decode cJ2_getChar_3b067 29 = .ok (.iconst 1, 1) := by decide +kernel
theorem dJ2_getChar_3b067_30 : decode cJ2_getChar_3b067 30 = .ok (.ishl, 1) := by decide +kernel
theorem dJ2_getChar_3b067_31 : decode cJ2_getChar_3b067 31 = .ok (.istore_n 1, 1) := by decide +kernel
theorem dJ2_getChar_3b067_32 : decode cJ2_getChar_3b067 32 = .ok (.aload_n 0, 1) := by decide +kernel
theorem dJ2_getChar_3b067_33 : decode cJ2_getChar_3b067 33 = .ok (.iload_n 1, 1) := by decide +kernel
theorem dJ2_getChar_3b067_34 : decode cJ2_getChar_3b067 34 = .ok (.iinc 1 1, 3) := by decide +kernel
theorem dJ2_getChar_3b067_37 : decode cJ2_getChar_3b067 37 = .ok (.baload, 1) := by decide +kernel
theorem dJ2_getChar_3b067_38 : decode cJ2_getChar_3b067 38 = .ok (.sipush 255, 3) := by decide +kernel
theorem dJ2_getChar_3b067_41 : decode cJ2_getChar_3b067 41 = .ok (.iand, 1) := by decide +kernel
theorem dJ2_getChar_3b067_42 : decode cJ2_getChar_3b067 42 = .ok (.getstatic 59, 3) := by decide +kernel
theorem dJ2_getChar_3b067_45 : decode cJ2_getChar_3b067 45 = .ok (.ishl, 1) := by decide +kernel
theorem dJ2_getChar_3b067_46 : decode cJ2_getChar_3b067 46 = .ok (.aload_n 0, 1) := by decide +kernel
theorem dJ2_getChar_3b067_47 : decode cJ2_getChar_3b067 47 = .ok (.iload_n 1, 1) := by decide +kernel
theorem dJ2_getChar_3b067_48 : decode cJ2_getChar_3b067 48 = .ok (.baload, 1) := by decide +kernel
theorem dJ2_getChar_3b067_49 : decode cJ2_getChar_3b067 49 = .ok (.sipush 255, 3) := by decide +kernel
theorem dJ2_getChar_3b067_52 : decode cJ2_getChar_3b067 52 = .ok (.iand, 1) := by decide +kernel
theorem dJ2_getChar_3b067_53 : decode cJ2_getChar_3b067 53 = .ok (.getstatic 63, 3) := by decide +kernel
theorem dJ2_getChar_3b067_56 : decode cJ2_getChar_3b067 56 = .ok (.ishl, 1) := by decide +kernel
theorem dJ2_getChar_3b067_57 : decode cJ2_getChar_3b067 57 = .ok (.ior, 1) := by decide +kernel
theorem dJ2_getChar_3b067_58 : decode cJ2_getChar_3b067 58 = .ok (.i2c, 1) := by decide +kernel
theorem dJ2_getChar_3b067_59 : decode cJ2_getChar_3b067 59 = .ok (.ireturn, 1) := by decide +kernel
theorem dJ2_length_9d52b_0 : decode cJ2_length_9d52b 0 = .ok (.aload_n 0, 1) := by decide +kernel
theorem dJ2_length_9d52b_1 : decode cJ2_length_9d52b 1 = .ok (.arraylength, 1) := by decide +kernel
theorem dJ2_length_9d52b_2 : decode cJ2_length_9d52b 2 = .ok (.iconst 1, 1) := by decide +kernel
theorem dJ2_length_9d52b_3 : decode cJ2_length_9d52b 3 = .ok (.ishr, 1) := by decide +kernel
theorem dJ2_length_9d52b_4 : decode cJ2_length_9d52b 4 = .ok (.ireturn, 1) := by decide +kernel
theorem dJ2_charAt_3b067_0 : decode cJ2_charAt_3b067 0 = .ok (.iload_n 1, 1) := by decide +kernel
theorem dJ2_charAt_3b067_1 : decode cJ2_charAt_3b067 1 = .ok (.aload_n 0, 1) := by decide +kernel
theorem dJ2_charAt_3b067_2 : decode cJ2_charAt_3b067 2 = .ok (.invokestatic 67, 3) := by decide +kernel
theorem dJ2_charAt_3b067_5 : decode cJ2_charAt_3b067 5 = .ok (.aload_n 0, 1) := by decide +kernel
theorem dJ2_charAt_3b067_6 : decode cJ2_charAt_3b067 6 = .ok (.iload_n 1, 1) := by decide +kernel
theorem dJ2_charAt_3b067_7 : decode cJ2_charAt_3b067 7 = .ok (.invokestatic 71, 3) := by decide +kernel
theorem dJ2_charAt_3b067_10 : decode cJ2_charAt_3b067 10 = .ok (.ireturn, 1) := by decide +kernel
theorem dJ2_checkIndex_2214a_0 : decode cJ2_checkIndex_2214a 0 = .ok (.iload_n 0, 1) := by decide +kernel
theorem dJ2_checkIndex_2214a_1 : decode cJ2_checkIndex_2214a 1 = .ok (.aload_n 1, 1) := by decide +kernel
theorem dJ2_checkIndex_2214a_2 : decode cJ2_checkIndex_2214a 2 = .ok (.invokestatic 48, 3) := by decide +kernel
theorem dJ2_checkIndex_2214a_5 : decode cJ2_checkIndex_2214a 5 = .ok (.invokestatic 414, 3) := by decide +kernel
theorem dJ2_checkIndex_2214a_8 : decode cJ2_checkIndex_2214a 8 = .ok (.return_, 1) := by decide +kernel
theorem dJ3_checkIndex_8e157_0 : decode cJ3_checkIndex_8e157 0 = .ok (.iload_n 0, 1) := by decide +kernel
theorem dJ3_checkIndex_8e157_1 : decode cJ3_checkIndex_8e157 1 = .ok (.ifCond .lt 8, 3) := by decide +kernel
theorem dJ3_checkIndex_8e157_4 : decode cJ3_checkIndex_8e157 4 = .ok (.iload_n 0, 1) := by decide +kernel
theorem dJ3_checkIndex_8e157_5 : decode cJ3_checkIndex_8e157 5 = .ok (.iload_n 1, 1) := by decide +kernel
theorem dJ3_checkIndex_8e157_6 : decode cJ3_checkIndex_8e157 6 = .ok (.if_icmp .lt 10, 3) := by decide +kernel
theorem dJ3_checkIndex_8e157_9 : decode cJ3_checkIndex_8e157 9 = .ok (.aload_n 2, 1) := by decide +kernel
theorem dJ3_checkIndex_8e157_10 : decode cJ3_checkIndex_8e157 10 = .ok (.iload_n 0, 1) := by decide +kernel
theorem dJ3_checkIndex_8e157_11 : decode cJ3_checkIndex_8e157 11 = .ok (.iload_n 1, 1) := by decide +kernel
theorem dJ3_checkIndex_8e157_12 : decode cJ3_checkIndex_8e157 12 = .ok (.invokestatic 95, 3) := by decide +kernel
theorem dJ3_checkIndex_8e157_15 : decode cJ3_checkIndex_8e157 15 = .ok (.athrow, 1) := by decide +kernel
theorem dJ3_checkIndex_8e157_16 : decode cJ3_checkIndex_8e157 16 = .ok (.iload_n 0, 1) := by decide +kernel
theorem dJ3_checkIndex_8e157_17 : decode cJ3_checkIndex_8e157 17 = .ok (.ireturn, 1) := by decide +kernel
theorem dL_law_0 : decode cL_law 0 = .ok (.new 7, 3) := by decide +kernel
theorem dL_law_3 : decode cL_law 3 = .ok (.dup, 1) := by decide +kernel
theorem dL_law_4 : decode cL_law 4 = .ok (.invokespecial 9, 3) := by decide +kernel
theorem dL_law_7 : decode cL_law 7 = .ok (.astore_n 1, 1) := by decide +kernel
theorem dL_law_8 : decode cL_law 8 = .ok (.new 10, 3) := by decide +kernel
theorem dL_law_11 : decode cL_law 11 = .ok (.dup, 1) := by decide +kernel
theorem dL_law_12 : decode cL_law 12 = .ok (.invokespecial 12, 3) := by decide +kernel
theorem dL_law_15 : decode cL_law 15 = .ok (.astore_n 2, 1) := by decide +kernel
theorem dL_law_16 : decode cL_law 16 = .ok (.iconst 0, 1) := by decide +kernel
theorem dL_law_17 : decode cL_law 17 = .ok (.istore_n 3, 1) := by decide +kernel
theorem dL_law_18 : decode cL_law 18 = .ok (.iload_n 3, 1) := by decide +kernel
theorem dL_law_19 : decode cL_law 19 = .ok (.aload_n 0, 1) := by decide +kernel
theorem dL_law_20 : decode cL_law 20 = .ok (.arraylength, 1) := by decide +kernel
theorem dL_law_21 : decode cL_law 21 = .ok (.bipush 7, 2) := by decide +kernel
theorem dL_law_23 : decode cL_law 23 = .ok (.isub, 1) := by decide +kernel
theorem dL_law_24 : decode cL_law 24 = .ok (.if_icmp .gt 1235, 3) := by decide +kernel
theorem dL_law_27 : decode cL_law 27 = .ok (.aload_n 0, 1) := by decide +kernel
theorem dL_law_28 : decode cL_law 28 = .ok (.iload_n 3, 1) := by decide +kernel
theorem dL_law_29 : decode cL_law 29 = .ok (.iaload, 1) := by decide +kernel
theorem dL_law_30 : decode cL_law 30 = .ok (.bipush 63, 2) := by decide +kernel
theorem dL_law_32 : decode cL_law 32 = .ok (.iand, 1) := by decide +kernel
theorem dL_law_33 : decode cL_law 33 = .ok (.tableswitch 1220 0 36 #[163, 186, 219, 262, 295, 318, 331, 344, 367, 380, 413, 446, 459, 492, 515, 538, 571, 594, 637, 660, 683, 696, 739, 762, 785, 818, 893, 936, 969, 982, 1057, 1090, 1114, 1137, 1160, 1183, 1206], 163) := by decide +kernel
theorem dL_law_196 : decode cL_law 196 = .ok (.aload_n 1, 1) := by decide +kernel
theorem dL_law_197 : decode cL_law 197 = .ok (.aload_n 0, 1) := by decide +kernel
theorem dL_law_198 : decode cL_law 198 = .ok (.iload_n 3, 1) := by decide +kernel
theorem dL_law_199 : decode cL_law 199 = .ok (.iconst 1, 1) := by decide +kernel
theorem dL_law_200 : decode cL_law 200 = .ok (.iadd, 1) := by decide +kernel
theorem dL_law_201 : decode cL_law 201 = .ok (.iaload, 1) := by decide +kernel
theorem dL_law_202 : decode cL_law 202 = .ok (.invokevirtual 13, 3) := by decide +kernel
theorem dL_law_205 : decode cL_law 205 = .ok (.aload_n 2, 1) := by decide +kernel
theorem dL_law_206 : decode cL_law 206 = .ok (.aload_n 0, 1) := by decide +kernel
theorem dL_law_207 : decode cL_law 207 = .ok (.iload_n 3, 1) := by decide +kernel
theorem dL_law_208 : decode cL_law 208 = .ok (.iconst 1, 1) := by decide +kernel
theorem dL_law_209 : decode cL_law 209 = .ok (.iadd, 1) := by decide +kernel
theorem dL_law_210 : decode cL_law 210 = .ok (.iaload, 1) := by decide +kernel
theorem dL_law_211 : decode cL_law 211 = .ok (.invokevirtual 17, 3) := by decide +kernel
theorem dL_law_214 : decode cL_law 214 = .ok (.if_icmp .eq 1039, 3) := by decide +kernel
theorem dL_law_217 : decode cL_law 217 = .ok (.iconst 0, 1) := by decide +kernel
theorem dL_law_218 : decode cL_law 218 = .ok (.ireturn, 1) := by decide +kernel
theorem dL_law_219 : decode cL_law 219 = .ok (.aload_n 1, 1) := by decide +kernel
theorem dL_law_220 : decode cL_law 220 = .ok (.aload_n 0, 1) := by decide +kernel
theorem dL_law_221 : decode cL_law 221 = .ok (.iload_n 3, 1) := by decide +kernel
theorem dL_law_222 : decode cL_law 222 = .ok (.iconst 1, 1) := by decide +kernel
theorem dL_law_223 : decode cL_law 223 = .ok (.iadd, 1) := by decide +kernel
theorem dL_law_224 : decode cL_law 224 = .ok (.iaload, 1) := by decide +kernel
theorem dL_law_225 : decode cL_law 225 = .ok (.aload_n 0, 1) := by decide +kernel
theorem dL_law_226 : decode cL_law 226 = .ok (.iload_n 3, 1) := by decide +kernel
theorem dL_law_227 : decode cL_law 227 = .ok (.iconst 2, 1) := by decide +kernel
theorem dL_law_228 : decode cL_law 228 = .ok (.iadd, 1) := by decide +kernel
theorem dL_law_229 : decode cL_law 229 = .ok (.iaload, 1) := by decide +kernel
theorem dL_law_230 : decode cL_law 230 = .ok (.invokevirtual 18, 3) := by decide +kernel
theorem dL_law_233 : decode cL_law 233 = .ok (.aload_n 2, 1) := by decide +kernel
theorem dL_law_234 : decode cL_law 234 = .ok (.aload_n 0, 1) := by decide +kernel
theorem dL_law_235 : decode cL_law 235 = .ok (.iload_n 3, 1) := by decide +kernel
theorem dL_law_236 : decode cL_law 236 = .ok (.iconst 1, 1) := by decide +kernel
theorem dL_law_237 : decode cL_law 237 = .ok (.iadd, 1) := by decide +kernel
theorem dL_law_238 : decode cL_law 238 = .ok (.iaload, 1) := by decide +kernel
theorem dL_law_239 : decode cL_law 239 = .ok (.aload_n 0, 1) := by decide +kernel
theorem dL_law_240 : decode cL_law 240 = .ok (.iload_n 3, 1) := by decide +kernel
theorem dL_law_241 : decode cL_law 241 = .ok (.iconst 2, 1) := by decide +kernel
theorem dL_law_242 : decode cL_law 242 = .ok (.iadd, 1) := by decide +kernel
theorem dL_law_243 : decode cL_law 243 = .ok (.iaload, 1) := by decide +kernel
theorem dL_law_244 : decode cL_law 244 = .ok (.invokevirtual 22, 3) := by decide +kernel
theorem dL_law_247 : decode cL_law 247 = .ok (.if_icmp .eq 1006, 3) := by decide +kernel
theorem dL_law_250 : decode cL_law 250 = .ok (.iconst 0, 1) := by decide +kernel
theorem dL_law_251 : decode cL_law 251 = .ok (.ireturn, 1) := by decide +kernel
theorem dL_law_252 : decode cL_law 252 = .ok (.aload_n 1, 1) := by decide +kernel
theorem dL_law_253 : decode cL_law 253 = .ok (.aload_n 0, 1) := by decide +kernel
theorem dL_law_254 : decode cL_law 254 = .ok (.iload_n 3, 1) := by decide +kernel
theorem dL_law_255 : decode cL_law 255 = .ok (.iconst 1, 1) := by decide +kernel
theorem dL_law_256 : decode cL_law 256 = .ok (.iadd, 1) := by decide +kernel
theorem dL_law_257 : decode cL_law 257 = .ok (.iaload, 1) := by decide +kernel
theorem dL_law_258 : decode cL_law 258 = .ok (.aload_n 0, 1) := by decide +kernel
theorem dL_law_259 : decode cL_law 259 = .ok (.iload_n 3, 1) := by decide +kernel
theorem dL_law_260 : decode cL_law 260 = .ok (.iconst 2, 1) := by decide +kernel
theorem dL_law_261 : decode cL_law 261 = .ok (.iadd, 1) := by decide +kernel
theorem dL_law_262 : decode cL_law 262 = .ok (.iaload, 1) := by decide +kernel
theorem dL_law_263 : decode cL_law 263 = .ok (.aload_n 0, 1) := by decide +kernel
theorem dL_law_264 : decode cL_law 264 = .ok (.iload_n 3, 1) := by decide +kernel
theorem dL_law_265 : decode cL_law 265 = .ok (.iconst 3, 1) := by decide +kernel
theorem dL_law_266 : decode cL_law 266 = .ok (.iadd, 1) := by decide +kernel
theorem dL_law_267 : decode cL_law 267 = .ok (.iaload, 1) := by decide +kernel
theorem dL_law_268 : decode cL_law 268 = .ok (.invokevirtual 23, 3) := by decide +kernel
theorem dL_law_271 : decode cL_law 271 = .ok (.aload_n 2, 1) := by decide +kernel
theorem dL_law_272 : decode cL_law 272 = .ok (.aload_n 0, 1) := by decide +kernel
theorem dL_law_273 : decode cL_law 273 = .ok (.iload_n 3, 1) := by decide +kernel
theorem dL_law_274 : decode cL_law 274 = .ok (.iconst 1, 1) := by decide +kernel
theorem dL_law_275 : decode cL_law 275 = .ok (.iadd, 1) := by decide +kernel
theorem dL_law_276 : decode cL_law 276 = .ok (.iaload, 1) := by decide +kernel
theorem dL_law_277 : decode cL_law 277 = .ok (.aload_n 0, 1) := by decide +kernel
theorem dL_law_278 : decode cL_law 278 = .ok (.iload_n 3, 1) := by decide +kernel
theorem dL_law_279 : decode cL_law 279 = .ok (.iconst 2, 1) := by decide +kernel
theorem dL_law_280 : decode cL_law 280 = .ok (.iadd, 1) := by decide +kernel
theorem dL_law_281 : decode cL_law 281 = .ok (.iaload, 1) := by decide +kernel
theorem dL_law_282 : decode cL_law 282 = .ok (.aload_n 0, 1) := by decide +kernel
theorem dL_law_283 : decode cL_law 283 = .ok (.iload_n 3, 1) := by decide +kernel
theorem dL_law_284 : decode cL_law 284 = .ok (.iconst 3, 1) := by decide +kernel
theorem dL_law_285 : decode cL_law 285 = .ok (.iadd, 1) := by decide +kernel
theorem dL_law_286 : decode cL_law 286 = .ok (.iaload, 1) := by decide +kernel
theorem dL_law_287 : decode cL_law 287 = .ok (.invokevirtual 27, 3) := by decide +kernel
theorem dL_law_290 : decode cL_law 290 = .ok (.if_icmp .eq 963, 3) := by decide +kernel
theorem dL_law_293 : decode cL_law 293 = .ok (.iconst 0, 1) := by decide +kernel
theorem dL_law_294 : decode cL_law 294 = .ok (.ireturn, 1) := by decide +kernel
theorem dL_law_295 : decode cL_law 295 = .ok (.aload_n 1, 1) := by decide +kernel
theorem dL_law_296 : decode cL_law 296 = .ok (.aload_n 0, 1) := by decide +kernel
theorem dL_law_297 : decode cL_law 297 = .ok (.iload_n 3, 1) := by decide +kernel
theorem dL_law_298 : decode cL_law 298 = .ok (.iconst 1, 1) := by decide +kernel
theorem dL_law_299 : decode cL_law 299 = .ok (.iadd, 1) := by decide +kernel
theorem dL_law_300 : decode cL_law 300 = .ok (.iaload, 1) := by decide +kernel
theorem dL_law_301 : decode cL_law 301 = .ok (.aload_n 0, 1) := by decide +kernel
theorem dL_law_302 : decode cL_law 302 = .ok (.iload_n 3, 1) := by decide +kernel
theorem dL_law_303 : decode cL_law 303 = .ok (.iconst 2, 1) := by decide +kernel
theorem dL_law_304 : decode cL_law 304 = .ok (.iadd, 1) := by decide +kernel
theorem dL_law_305 : decode cL_law 305 = .ok (.iaload, 1) := by decide +kernel
theorem dL_law_306 : decode cL_law 306 = .ok (.invokevirtual 28, 3) := by decide +kernel
theorem dL_law_309 : decode cL_law 309 = .ok (.aload_n 2, 1) := by decide +kernel
theorem dL_law_310 : decode cL_law 310 = .ok (.aload_n 0, 1) := by decide +kernel
theorem dL_law_311 : decode cL_law 311 = .ok (.iload_n 3, 1) := by decide +kernel
theorem dL_law_312 : decode cL_law 312 = .ok (.iconst 1, 1) := by decide +kernel
theorem dL_law_313 : decode cL_law 313 = .ok (.iadd, 1) := by decide +kernel
theorem dL_law_314 : decode cL_law 314 = .ok (.iaload, 1) := by decide +kernel
theorem dL_law_315 : decode cL_law 315 = .ok (.aload_n 0, 1) := by decide +kernel
theorem dL_law_316 : decode cL_law 316 = .ok (.iload_n 3, 1) := by decide +kernel
theorem dL_law_317 : decode cL_law 317 = .ok (.iconst 2, 1) := by decide +kernel
theorem dL_law_318 : decode cL_law 318 = .ok (.iadd, 1) := by decide +kernel
theorem dL_law_319 : decode cL_law 319 = .ok (.iaload, 1) := by decide +kernel
theorem dL_law_320 : decode cL_law 320 = .ok (.invokevirtual 31, 3) := by decide +kernel
theorem dL_law_323 : decode cL_law 323 = .ok (.if_icmp .eq 930, 3) := by decide +kernel
theorem dL_law_326 : decode cL_law 326 = .ok (.iconst 0, 1) := by decide +kernel
theorem dL_law_327 : decode cL_law 327 = .ok (.ireturn, 1) := by decide +kernel
theorem dL_law_328 : decode cL_law 328 = .ok (.aload_n 1, 1) := by decide +kernel
theorem dL_law_329 : decode cL_law 329 = .ok (.aload_n 0, 1) := by decide +kernel
theorem dL_law_330 : decode cL_law 330 = .ok (.iload_n 3, 1) := by decide +kernel
theorem dL_law_331 : decode cL_law 331 = .ok (.iconst 1, 1) := by decide +kernel
theorem dL_law_332 : decode cL_law 332 = .ok (.iadd, 1) := by decide +kernel
theorem dL_law_333 : decode cL_law 333 = .ok (.iaload, 1) := by decide +kernel
theorem dL_law_334 : decode cL_law 334 = .ok (.invokevirtual 32, 3) := by decide +kernel
theorem dL_law_337 : decode cL_law 337 = .ok (.aload_n 2, 1) := by decide +kernel
theorem dL_law_338 : decode cL_law 338 = .ok (.aload_n 0, 1) := by decide +kernel
theorem dL_law_339 : decode cL_law 339 = .ok (.iload_n 3, 1) := by decide +kernel
theorem dL_law_340 : decode cL_law 340 = .ok (.iconst 1, 1) := by decide +kernel
theorem dL_law_341 : decode cL_law 341 = .ok (.iadd, 1) := by decide +kernel
theorem dL_law_342 : decode cL_law 342 = .ok (.iaload, 1) := by decide +kernel
theorem dL_law_343 : decode cL_law 343 = .ok (.invokevirtual 35, 3) := by decide +kernel
theorem dL_law_346 : decode cL_law 346 = .ok (.if_icmp .eq 907, 3) := by decide +kernel
theorem dL_law_349 : decode cL_law 349 = .ok (.iconst 0, 1) := by decide +kernel
theorem dL_law_350 : decode cL_law 350 = .ok (.ireturn, 1) := by decide +kernel
theorem dL_law_351 : decode cL_law 351 = .ok (.aload_n 1, 1) := by decide +kernel
theorem dL_law_352 : decode cL_law 352 = .ok (.invokevirtual 36, 3) := by decide +kernel
theorem dL_law_355 : decode cL_law 355 = .ok (.aload_n 2, 1) := by decide +kernel
theorem dL_law_356 : decode cL_law 356 = .ok (.invokevirtual 40, 3) := by decide +kernel
theorem dL_law_359 : decode cL_law 359 = .ok (.if_icmp .eq 894, 3) := by decide +kernel
theorem dL_law_362 : decode cL_law 362 = .ok (.iconst 0, 1) := by decide +kernel
theorem dL_law_363 : decode cL_law 363 = .ok (.ireturn, 1) := by decide +kernel
theorem dL_law_364 : decode cL_law 364 = .ok (.aload_n 1, 1) := by decide +kernel
theorem dL_law_365 : decode cL_law 365 = .ok (.invokevirtual 41, 3) := by decide +kernel
theorem dL_law_368 : decode cL_law 368 = .ok (.aload_n 2, 1) := by decide +kernel
theorem dL_law_369 : decode cL_law 369 = .ok (.invokevirtual 44, 3) := by decide +kernel
theorem dL_law_372 : decode cL_law 372 = .ok (.if_icmp .eq 881, 3) := by decide +kernel
theorem dL_law_375 : decode cL_law 375 = .ok (.iconst 0, 1) := by decide +kernel
theorem dL_law_376 : decode cL_law 376 = .ok (.ireturn, 1) := by decide +kernel
theorem dL_law_377 : decode cL_law 377 = .ok (.aload_n 1, 1) := by decide +kernel
theorem dL_law_378 : decode cL_law 378 = .ok (.aload_n 0, 1) := by decide +kernel
theorem dL_law_379 : decode cL_law 379 = .ok (.iload_n 3, 1) := by decide +kernel
theorem dL_law_380 : decode cL_law 380 = .ok (.iconst 1, 1) := by decide +kernel
theorem dL_law_381 : decode cL_law 381 = .ok (.iadd, 1) := by decide +kernel
theorem dL_law_382 : decode cL_law 382 = .ok (.iaload, 1) := by decide +kernel
theorem dL_law_383 : decode cL_law 383 = .ok (.invokevirtual 45, 3) := by decide +kernel
theorem dL_law_386 : decode cL_law 386 = .ok (.aload_n 2, 1) := by decide +kernel
theorem dL_law_387 : decode cL_law 387 = .ok (.aload_n 0, 1) := by decide +kernel
theorem dL_law_388 : decode cL_law 388 = .ok (.iload_n 3, 1) := by decide +kernel
theorem dL_law_389 : decode cL_law 389 = .ok (.iconst 1, 1) := by decide +kernel
theorem dL_law_390 : decode cL_law 390 = .ok (.iadd, 1) := by decide +kernel
theorem dL_law_391 : decode cL_law 391 = .ok (.iaload, 1) := by decide +kernel
theorem dL_law_392 : decode cL_law 392 = .ok (.invokevirtual 48, 3) := by decide +kernel
theorem dL_law_395 : decode cL_law 395 = .ok (.if_icmp .eq 858, 3) := by decide +kernel
theorem dL_law_398 : decode cL_law 398 = .ok (.iconst 0, 1) := by decide +kernel
theorem dL_law_399 : decode cL_law 399 = .ok (.ireturn, 1) := by decide +kernel
theorem dL_law_400 : decode cL_law 400 = .ok (.aload_n 1, 1) := by decide +kernel
theorem dL_law_401 : decode cL_law 401 = .ok (.invokevirtual 49, 3) := by decide +kernel
theorem dL_law_404 : decode cL_law 404 = .ok (.aload_n 2, 1) := by decide +kernel
theorem dL_law_405 : decode cL_law 405 = .ok (.invokevirtual 52, 3) := by decide +kernel
theorem dL_law_408 : decode cL_law 408 = .ok (.if_icmp .eq 845, 3) := by decide +kernel
theorem dL_law_411 : decode cL_law 411 = .ok (.iconst 0, 1) := by decide +kernel
theorem dL_law_412 : decode cL_law 412 = .ok (.ireturn, 1) := by decide +kernel
theorem dL_law_413 : decode cL_law 413 = .ok (.aload_n 1, 1) := by decide +kernel
theorem dL_law_414 : decode cL_law 414 = .ok (.aload_n 0, 1) := by decide +kernel
theorem dL_law_415 : decode cL_law 415 = .ok (.iload_n 3, 1) := by decide +kernel
theorem dL_law_416 : decode cL_law 416 = .ok (.iconst 1, 1) := by decide +kernel
theorem dL_law_417 : decode cL_law 417 = .ok (.iadd, 1) := by decide +kernel
theorem dL_law_418 : decode cL_law 418 = .ok (.iaload, 1) := by decide +kernel
theorem dL_law_419 : decode cL_law 419 = .ok (.aload_n 0, 1) := by decide +kernel
theorem dL_law_420 : decode cL_law 420 = .ok (.iload_n 3, 1) := by decide +kernel
theorem dL_law_421 : decode cL_law 421 = .ok (.iconst 2, 1) := by decide +kernel
theorem dL_law_422 : decode cL_law 422 = .ok (.iadd, 1) := by decide +kernel
theorem dL_law_423 : decode cL_law 423 = .ok (.iaload, 1) := by decide +kernel
theorem dL_law_424 : decode cL_law 424 = .ok (.invokevirtual 53, 3) := by decide +kernel
theorem dL_law_427 : decode cL_law 427 = .ok (.aload_n 2, 1) := by decide +kernel
theorem dL_law_428 : decode cL_law 428 = .ok (.aload_n 0, 1) := by decide +kernel
theorem dL_law_429 : decode cL_law 429 = .ok (.iload_n 3, 1) := by decide +kernel
theorem dL_law_430 : decode cL_law 430 = .ok (.iconst 1, 1) := by decide +kernel
theorem dL_law_431 : decode cL_law 431 = .ok (.iadd, 1) := by decide +kernel
theorem dL_law_432 : decode cL_law 432 = .ok (.iaload, 1) := by decide +kernel
theorem dL_law_433 : decode cL_law 433 = .ok (.aload_n 0, 1) := by decide +kernel
theorem dL_law_434 : decode cL_law 434 = .ok (.iload_n 3, 1) := by decide +kernel
theorem dL_law_435 : decode cL_law 435 = .ok (.iconst 2, 1) := by decide +kernel
theorem dL_law_436 : decode cL_law 436 = .ok (.iadd, 1) := by decide +kernel
theorem dL_law_437 : decode cL_law 437 = .ok (.iaload, 1) := by decide +kernel
theorem dL_law_438 : decode cL_law 438 = .ok (.invokevirtual 56, 3) := by decide +kernel
theorem dL_law_441 : decode cL_law 441 = .ok (.if_icmp .eq 812, 3) := by decide +kernel
theorem dL_law_444 : decode cL_law 444 = .ok (.iconst 0, 1) := by decide +kernel
theorem dL_law_445 : decode cL_law 445 = .ok (.ireturn, 1) := by decide +kernel
theorem dL_law_446 : decode cL_law 446 = .ok (.aload_n 1, 1) := by decide +kernel
theorem dL_law_447 : decode cL_law 447 = .ok (.aload_n 0, 1) := by decide +kernel
theorem dL_law_448 : decode cL_law 448 = .ok (.iload_n 3, 1) := by decide +kernel
theorem dL_law_449 : decode cL_law 449 = .ok (.iconst 1, 1) := by decide +kernel
theorem dL_law_450 : decode cL_law 450 = .ok (.iadd, 1) := by decide +kernel
theorem dL_law_451 : decode cL_law 451 = .ok (.iaload, 1) := by decide +kernel
theorem dL_law_452 : decode cL_law 452 = .ok (.aload_n 0, 1) := by decide +kernel
theorem dL_law_453 : decode cL_law 453 = .ok (.iload_n 3, 1) := by decide +kernel
theorem dL_law_454 : decode cL_law 454 = .ok (.iconst 2, 1) := by decide +kernel
theorem dL_law_455 : decode cL_law 455 = .ok (.iadd, 1) := by decide +kernel
theorem dL_law_456 : decode cL_law 456 = .ok (.iaload, 1) := by decide +kernel
theorem dL_law_457 : decode cL_law 457 = .ok (.invokevirtual 57, 3) := by decide +kernel
theorem dL_law_460 : decode cL_law 460 = .ok (.aload_n 2, 1) := by decide +kernel
theorem dL_law_461 : decode cL_law 461 = .ok (.aload_n 0, 1) := by decide +kernel
theorem dL_law_462 : decode cL_law 462 = .ok (.iload_n 3, 1) := by decide +kernel
theorem dL_law_463 : decode cL_law 463 = .ok (.iconst 1, 1) := by decide +kernel
theorem dL_law_464 : decode cL_law 464 = .ok (.iadd, 1) := by decide +kernel
theorem dL_law_465 : decode cL_law 465 = .ok (.iaload, 1) := by decide +kernel
theorem dL_law_466 : decode cL_law 466 = .ok (.aload_n 0, 1) := by decide +kernel
theorem dL_law_467 : decode cL_law 467 = .ok (.iload_n 3, 1) := by decide +kernel
theorem dL_law_468 : decode cL_law 468 = .ok (.iconst 2, 1) := by decide +kernel
theorem dL_law_469 : decode cL_law 469 = .ok (.iadd, 1) := by decide +kernel
theorem dL_law_470 : decode cL_law 470 = .ok (.iaload, 1) := by decide +kernel
theorem dL_law_471 : decode cL_law 471 = .ok (.invokevirtual 60, 3) := by decide +kernel
theorem dL_law_474 : decode cL_law 474 = .ok (.if_icmp .eq 779, 3) := by decide +kernel
theorem dL_law_477 : decode cL_law 477 = .ok (.iconst 0, 1) := by decide +kernel
theorem dL_law_478 : decode cL_law 478 = .ok (.ireturn, 1) := by decide +kernel
theorem dL_law_479 : decode cL_law 479 = .ok (.aload_n 1, 1) := by decide +kernel
theorem dL_law_480 : decode cL_law 480 = .ok (.invokevirtual 61, 3) := by decide +kernel
theorem dL_law_483 : decode cL_law 483 = .ok (.aload_n 2, 1) := by decide +kernel
theorem dL_law_484 : decode cL_law 484 = .ok (.invokevirtual 64, 3) := by decide +kernel
theorem dL_law_487 : decode cL_law 487 = .ok (.if_icmp .eq 766, 3) := by decide +kernel
theorem dL_law_490 : decode cL_law 490 = .ok (.iconst 0, 1) := by decide +kernel
theorem dL_law_491 : decode cL_law 491 = .ok (.ireturn, 1) := by decide +kernel
theorem dL_law_492 : decode cL_law 492 = .ok (.aload_n 1, 1) := by decide +kernel
theorem dL_law_493 : decode cL_law 493 = .ok (.aload_n 0, 1) := by decide +kernel
theorem dL_law_494 : decode cL_law 494 = .ok (.iload_n 3, 1) := by decide +kernel
theorem dL_law_495 : decode cL_law 495 = .ok (.iconst 1, 1) := by decide +kernel
theorem dL_law_496 : decode cL_law 496 = .ok (.iadd, 1) := by decide +kernel
theorem dL_law_497 : decode cL_law 497 = .ok (.iaload, 1) := by decide +kernel
theorem dL_law_498 : decode cL_law 498 = .ok (.aload_n 0, 1) := by decide +kernel
theorem dL_law_499 : decode cL_law 499 = .ok (.iload_n 3, 1) := by decide +kernel
theorem dL_law_500 : decode cL_law 500 = .ok (.iconst 2, 1) := by decide +kernel
theorem dL_law_501 : decode cL_law 501 = .ok (.iadd, 1) := by decide +kernel
theorem dL_law_502 : decode cL_law 502 = .ok (.iaload, 1) := by decide +kernel
theorem dL_law_503 : decode cL_law 503 = .ok (.invokevirtual 65, 3) := by decide +kernel
theorem dL_law_506 : decode cL_law 506 = .ok (.aload_n 2, 1) := by decide +kernel
theorem dL_law_507 : decode cL_law 507 = .ok (.aload_n 0, 1) := by decide +kernel
theorem dL_law_508 : decode cL_law 508 = .ok (.iload_n 3, 1) := by decide +kernel
theorem dL_law_509 : decode cL_law 509 = .ok (.iconst 1, 1) := by decide +kernel
theorem dL_law_510 : decode cL_law 510 = .ok (.iadd, 1) := by decide +kernel
theorem dL_law_511 : decode cL_law 511 = .ok (.iaload, 1) := by decide +kernel
theorem dL_law_512 : decode cL_law 512 = .ok (.aload_n 0, 1) := by decide +kernel
theorem dL_law_513 : decode cL_law 513 = .ok (.iload_n 3, 1) := by decide +kernel
theorem dL_law_514 : decode cL_law 514 = .ok (.iconst 2, 1) := by decide +kernel
theorem dL_law_515 : decode cL_law 515 = .ok (.iadd, 1) := by decide +kernel
theorem dL_law_516 : decode cL_law 516 = .ok (.iaload, 1) := by decide +kernel
theorem dL_law_517 : decode cL_law 517 = .ok (.invokevirtual 68, 3) := by decide +kernel
theorem dL_law_520 : decode cL_law 520 = .ok (.if_icmp .eq 733, 3) := by decide +kernel
theorem dL_law_523 : decode cL_law 523 = .ok (.iconst 0, 1) := by decide +kernel
theorem dL_law_524 : decode cL_law 524 = .ok (.ireturn, 1) := by decide +kernel
theorem dL_law_525 : decode cL_law 525 = .ok (.aload_n 1, 1) := by decide +kernel
theorem dL_law_526 : decode cL_law 526 = .ok (.aload_n 0, 1) := by decide +kernel
theorem dL_law_527 : decode cL_law 527 = .ok (.iload_n 3, 1) := by decide +kernel
theorem dL_law_528 : decode cL_law 528 = .ok (.iconst 1, 1) := by decide +kernel
theorem dL_law_529 : decode cL_law 529 = .ok (.iadd, 1) := by decide +kernel
theorem dL_law_530 : decode cL_law 530 = .ok (.iaload, 1) := by decide +kernel
theorem dL_law_531 : decode cL_law 531 = .ok (.invokevirtual 69, 3) := by decide +kernel
theorem dL_law_534 : decode cL_law 534 = .ok (.aload_n 2, 1) := by decide +kernel
theorem dL_law_535 : decode cL_law 535 = .ok (.aload_n 0, 1) := by decide +kernel
theorem dL_law_536 : decode cL_law 536 = .ok (.iload_n 3, 1) := by decide +kernel
theorem dL_law_537 : decode cL_law 537 = .ok (.iconst 1, 1) := by decide +kernel
theorem dL_law_538 : decode cL_law 538 = .ok (.iadd, 1) := by decide +kernel
theorem dL_law_539 : decode cL_law 539 = .ok (.iaload, 1) := by decide +kernel
theorem dL_law_540 : decode cL_law 540 = .ok (.invokevirtual 72, 3) := by decide +kernel
theorem dL_law_543 : decode cL_law 543 = .ok (.if_icmp .eq 710, 3) := by decide +kernel
theorem dL_law_546 : decode cL_law 546 = .ok (.iconst 0, 1) := by decide +kernel
theorem dL_law_547 : decode cL_law 547 = .ok (.ireturn, 1) := by decide +kernel
theorem dL_law_548 : decode cL_law 548 = .ok (.aload_n 1, 1) := by decide +kernel
theorem dL_law_549 : decode cL_law 549 = .ok (.aload_n 0, 1) := by decide +kernel
theorem dL_law_550 : decode cL_law 550 = .ok (.iload_n 3, 1) := by decide +kernel
theorem dL_law_551 : decode cL_law 551 = .ok (.iconst 1, 1) := by decide +kernel
theorem dL_law_552 : decode cL_law 552 = .ok (.iadd, 1) := by decide +kernel
theorem dL_law_553 : decode cL_law 553 = .ok (.iaload, 1) := by decide +kernel
theorem dL_law_554 : decode cL_law 554 = .ok (.invokevirtual 73, 3) := by decide +kernel
theorem dL_law_557 : decode cL_law 557 = .ok (.aload_n 2, 1) := by decide +kernel
theorem dL_law_558 : decode cL_law 558 = .ok (.aload_n 0, 1) := by decide +kernel
theorem dL_law_559 : decode cL_law 559 = .ok (.iload_n 3, 1) := by decide +kernel
theorem dL_law_560 : decode cL_law 560 = .ok (.iconst 1, 1) := by decide +kernel
theorem dL_law_561 : decode cL_law 561 = .ok (.iadd, 1) := by decide +kernel
theorem dL_law_562 : decode cL_law 562 = .ok (.iaload, 1) := by decide +kernel
theorem dL_law_563 : decode cL_law 563 = .ok (.invokevirtual 76, 3) := by decide +kernel
theorem dL_law_566 : decode cL_law 566 = .ok (.if_icmp .eq 687, 3) := by decide +kernel
theorem dL_law_569 : decode cL_law 569 = .ok (.iconst 0, 1) := by decide +kernel
theorem dL_law_570 : decode cL_law 570 = .ok (.ireturn, 1) := by decide +kernel
theorem dL_law_571 : decode cL_law 571 = .ok (.aload_n 1, 1) := by decide +kernel
theorem dL_law_572 : decode cL_law 572 = .ok (.aload_n 0, 1) := by decide +kernel
theorem dL_law_573 : decode cL_law 573 = .ok (.iload_n 3, 1) := by decide +kernel
theorem dL_law_574 : decode cL_law 574 = .ok (.iconst 1, 1) := by decide +kernel
theorem dL_law_575 : decode cL_law 575 = .ok (.iadd, 1) := by decide +kernel
theorem dL_law_576 : decode cL_law 576 = .ok (.iaload, 1) := by decide +kernel
theorem dL_law_577 : decode cL_law 577 = .ok (.aload_n 0, 1) := by decide +kernel
theorem dL_law_578 : decode cL_law 578 = .ok (.iload_n 3, 1) := by decide +kernel
theorem dL_law_579 : decode cL_law 579 = .ok (.iconst 2, 1) := by decide +kernel
theorem dL_law_580 : decode cL_law 580 = .ok (.iadd, 1) := by decide +kernel
theorem dL_law_581 : decode cL_law 581 = .ok (.iaload, 1) := by decide +kernel
theorem dL_law_582 : decode cL_law 582 = .ok (.invokevirtual 77, 3) := by decide +kernel
theorem dL_law_585 : decode cL_law 585 = .ok (.aload_n 2, 1) := by decide +kernel
theorem dL_law_586 : decode cL_law 586 = .ok (.aload_n 0, 1) := by decide +kernel
theorem dL_law_587 : decode cL_law 587 = .ok (.iload_n 3, 1) := by decide +kernel
theorem dL_law_588 : decode cL_law 588 = .ok (.iconst 1, 1) := by decide +kernel
theorem dL_law_589 : decode cL_law 589 = .ok (.iadd, 1) := by decide +kernel
theorem dL_law_590 : decode cL_law 590 = .ok (.iaload, 1) := by decide +kernel
theorem dL_law_591 : decode cL_law 591 = .ok (.aload_n 0, 1) := by decide +kernel
theorem dL_law_592 : decode cL_law 592 = .ok (.iload_n 3, 1) := by decide +kernel
theorem dL_law_593 : decode cL_law 593 = .ok (.iconst 2, 1) := by decide +kernel
theorem dL_law_594 : decode cL_law 594 = .ok (.iadd, 1) := by decide +kernel
theorem dL_law_595 : decode cL_law 595 = .ok (.iaload, 1) := by decide +kernel
theorem dL_law_596 : decode cL_law 596 = .ok (.invokevirtual 80, 3) := by decide +kernel
theorem dL_law_599 : decode cL_law 599 = .ok (.if_icmp .eq 654, 3) := by decide +kernel
theorem dL_law_602 : decode cL_law 602 = .ok (.iconst 0, 1) := by decide +kernel
theorem dL_law_603 : decode cL_law 603 = .ok (.ireturn, 1) := by decide +kernel
theorem dL_law_604 : decode cL_law 604 = .ok (.aload_n 1, 1) := by decide +kernel
theorem dL_law_605 : decode cL_law 605 = .ok (.aload_n 0, 1) := by decide +kernel
theorem dL_law_606 : decode cL_law 606 = .ok (.iload_n 3, 1) := by decide +kernel
theorem dL_law_607 : decode cL_law 607 = .ok (.iconst 1, 1) := by decide +kernel
theorem dL_law_608 : decode cL_law 608 = .ok (.iadd, 1) := by decide +kernel
theorem dL_law_609 : decode cL_law 609 = .ok (.iaload, 1) := by decide +kernel
theorem dL_law_610 : decode cL_law 610 = .ok (.invokevirtual 81, 3) := by decide +kernel
theorem dL_law_613 : decode cL_law 613 = .ok (.aload_n 2, 1) := by decide +kernel
theorem dL_law_614 : decode cL_law 614 = .ok (.aload_n 0, 1) := by decide +kernel
theorem dL_law_615 : decode cL_law 615 = .ok (.iload_n 3, 1) := by decide +kernel
theorem dL_law_616 : decode cL_law 616 = .ok (.iconst 1, 1) := by decide +kernel
theorem dL_law_617 : decode cL_law 617 = .ok (.iadd, 1) := by decide +kernel
theorem dL_law_618 : decode cL_law 618 = .ok (.iaload, 1) := by decide +kernel
theorem dL_law_619 : decode cL_law 619 = .ok (.invokevirtual 84, 3) := by decide +kernel
theorem dL_law_622 : decode cL_law 622 = .ok (.if_icmp .eq 631, 3) := by decide +kernel
theorem dL_law_625 : decode cL_law 625 = .ok (.iconst 0, 1) := by decide +kernel
theorem dL_law_626 : decode cL_law 626 = .ok (.ireturn, 1) := by decide +kernel
theorem dL_law_627 : decode cL_law 627 = .ok (.aload_n 1, 1) := by decide +kernel
theorem dL_law_628 : decode cL_law 628 = .ok (.aload_n 0, 1) := by decide +kernel
theorem dL_law_629 : decode cL_law 629 = .ok (.iload_n 3, 1) := by decide +kernel
theorem dL_law_630 : decode cL_law 630 = .ok (.iconst 1, 1) := by decide +kernel
theorem dL_law_631 : decode cL_law 631 = .ok (.iadd, 1) := by decide +kernel
theorem dL_law_632 : decode cL_law 632 = .ok (.iaload, 1) := by decide +kernel
theorem dL_law_633 : decode cL_law 633 = .ok (.aload_n 0, 1) := by decide +kernel
theorem dL_law_634 : decode cL_law 634 = .ok (.iload_n 3, 1) := by decide +kernel
theorem dL_law_635 : decode cL_law 635 = .ok (.iconst 2, 1) := by decide +kernel
theorem dL_law_636 : decode cL_law 636 = .ok (.iadd, 1) := by decide +kernel
theorem dL_law_637 : decode cL_law 637 = .ok (.iaload, 1) := by decide +kernel
theorem dL_law_638 : decode cL_law 638 = .ok (.aload_n 0, 1) := by decide +kernel
theorem dL_law_639 : decode cL_law 639 = .ok (.iload_n 3, 1) := by decide +kernel
theorem dL_law_640 : decode cL_law 640 = .ok (.iconst 3, 1) := by decide +kernel
theorem dL_law_641 : decode cL_law 641 = .ok (.iadd, 1) := by decide +kernel
theorem dL_law_642 : decode cL_law 642 = .ok (.iaload, 1) := by decide +kernel
theorem dL_law_643 : decode cL_law 643 = .ok (.invokevirtual 85, 3) := by decide +kernel
theorem dL_law_646 : decode cL_law 646 = .ok (.aload_n 2, 1) := by decide +kernel
theorem dL_law_647 : decode cL_law 647 = .ok (.aload_n 0, 1) := by decide +kernel
theorem dL_law_648 : decode cL_law 648 = .ok (.iload_n 3, 1) := by decide +kernel
theorem dL_law_649 : decode cL_law 649 = .ok (.iconst 1, 1) := by decide +kernel
theorem dL_law_650 : decode cL_law 650 = .ok (.iadd, 1) := by decide +kernel
theorem dL_law_651 : decode cL_law 651 = .ok (.iaload, 1) := by decide +kernel
theorem dL_law_652 : decode cL_law 652 = .ok (.aload_n 0, 1) := by decide +kernel
theorem dL_law_653 : decode cL_law 653 = .ok (.iload_n 3, 1) := by decide +kernel
theorem dL_law_654 : decode cL_law 654 = .ok (.iconst 2, 1) := by decide +kernel
theorem dL_law_655 : decode cL_law 655 = .ok (.iadd, 1) := by decide +kernel
theorem dL_law_656 : decode cL_law 656 = .ok (.iaload, 1) := by decide +kernel
theorem dL_law_657 : decode cL_law 657 = .ok (.aload_n 0, 1) := by decide +kernel
theorem dL_law_658 : decode cL_law 658 = .ok (.iload_n 3, 1) := by decide +kernel
theorem dL_law_659 : decode cL_law 659 = .ok (.iconst 3, 1) := by decide +kernel
theorem dL_law_660 : decode cL_law 660 = .ok (.iadd, 1) := by decide +kernel
theorem dL_law_661 : decode cL_law 661 = .ok (.iaload, 1) := by decide +kernel
theorem dL_law_662 : decode cL_law 662 = .ok (.invokevirtual 88, 3) := by decide +kernel
theorem dL_law_665 : decode cL_law 665 = .ok (.if_icmp .eq 588, 3) := by decide +kernel
theorem dL_law_668 : decode cL_law 668 = .ok (.iconst 0, 1) := by decide +kernel
theorem dL_law_669 : decode cL_law 669 = .ok (.ireturn, 1) := by decide +kernel
theorem dL_law_670 : decode cL_law 670 = .ok (.aload_n 1, 1) := by decide +kernel
theorem dL_law_671 : decode cL_law 671 = .ok (.aload_n 0, 1) := by decide +kernel
theorem dL_law_672 : decode cL_law 672 = .ok (.iload_n 3, 1) := by decide +kernel
theorem dL_law_673 : decode cL_law 673 = .ok (.iconst 1, 1) := by decide +kernel
theorem dL_law_674 : decode cL_law 674 = .ok (.iadd, 1) := by decide +kernel
theorem dL_law_675 : decode cL_law 675 = .ok (.iaload, 1) := by decide +kernel
theorem dL_law_676 : decode cL_law 676 = .ok (.invokevirtual 89, 3) := by decide +kernel
theorem dL_law_679 : decode cL_law 679 = .ok (.aload_n 2, 1) := by decide +kernel
theorem dL_law_680 : decode cL_law 680 = .ok (.aload_n 0, 1) := by decide +kernel
theorem dL_law_681 : decode cL_law 681 = .ok (.iload_n 3, 1) := by decide +kernel
theorem dL_law_682 : decode cL_law 682 = .ok (.iconst 1, 1) := by decide +kernel
theorem dL_law_683 : decode cL_law 683 = .ok (.iadd, 1) := by decide +kernel
theorem dL_law_684 : decode cL_law 684 = .ok (.iaload, 1) := by decide +kernel
theorem dL_law_685 : decode cL_law 685 = .ok (.invokevirtual 92, 3) := by decide +kernel
theorem dL_law_688 : decode cL_law 688 = .ok (.if_icmp .eq 565, 3) := by decide +kernel
theorem dL_law_691 : decode cL_law 691 = .ok (.iconst 0, 1) := by decide +kernel
theorem dL_law_692 : decode cL_law 692 = .ok (.ireturn, 1) := by decide +kernel
theorem dL_law_693 : decode cL_law 693 = .ok (.aload_n 1, 1) := by decide +kernel
theorem dL_law_694 : decode cL_law 694 = .ok (.aload_n 0, 1) := by decide +kernel
theorem dL_law_695 : decode cL_law 695 = .ok (.iload_n 3, 1) := by decide +kernel
theorem dL_law_696 : decode cL_law 696 = .ok (.iconst 1, 1) := by decide +kernel
theorem dL_law_697 : decode cL_law 697 = .ok (.iadd, 1) := by decide +kernel
theorem dL_law_698 : decode cL_law 698 = .ok (.iaload, 1) := by decide +kernel
theorem dL_law_699 : decode cL_law 699 = .ok (.invokevirtual 93, 3) := by decide +kernel
theorem dL_law_702 : decode cL_law 702 = .ok (.aload_n 2, 1) := by decide +kernel
theorem dL_law_703 : decode cL_law 703 = .ok (.aload_n 0, 1) := by decide +kernel
theorem dL_law_704 : decode cL_law 704 = .ok (.iload_n 3, 1) := by decide +kernel
theorem dL_law_705 : decode cL_law 705 = .ok (.iconst 1, 1) := by decide +kernel
theorem dL_law_706 : decode cL_law 706 = .ok (.iadd, 1) := by decide +kernel
theorem dL_law_707 : decode cL_law 707 = .ok (.iaload, 1) := by decide +kernel
theorem dL_law_708 : decode cL_law 708 = .ok (.invokevirtual 96, 3) := by decide +kernel
theorem dL_law_711 : decode cL_law 711 = .ok (.if_icmp .eq 542, 3) := by decide +kernel
theorem dL_law_714 : decode cL_law 714 = .ok (.iconst 0, 1) := by decide +kernel
theorem dL_law_715 : decode cL_law 715 = .ok (.ireturn, 1) := by decide +kernel
theorem dL_law_716 : decode cL_law 716 = .ok (.aload_n 1, 1) := by decide +kernel
theorem dL_law_717 : decode cL_law 717 = .ok (.invokevirtual 97, 3) := by decide +kernel
theorem dL_law_720 : decode cL_law 720 = .ok (.aload_n 2, 1) := by decide +kernel
theorem dL_law_721 : decode cL_law 721 = .ok (.invokevirtual 100, 3) := by decide +kernel
theorem dL_law_724 : decode cL_law 724 = .ok (.if_icmp .eq 529, 3) := by decide +kernel
theorem dL_law_727 : decode cL_law 727 = .ok (.iconst 0, 1) := by decide +kernel
theorem dL_law_728 : decode cL_law 728 = .ok (.ireturn, 1) := by decide +kernel
theorem dL_law_729 : decode cL_law 729 = .ok (.aload_n 1, 1) := by decide +kernel
theorem dL_law_730 : decode cL_law 730 = .ok (.aload_n 0, 1) := by decide +kernel
theorem dL_law_731 : decode cL_law 731 = .ok (.iload_n 3, 1) := by decide +kernel
theorem dL_law_732 : decode cL_law 732 = .ok (.iconst 1, 1) := by decide +kernel
theorem dL_law_733 : decode cL_law 733 = .ok (.iadd, 1) := by decide +kernel
theorem dL_law_734 : decode cL_law 734 = .ok (.iaload, 1) := by decide +kernel
theorem dL_law_735 : decode cL_law 735 = .ok (.aload_n 0, 1) := by decide +kernel
theorem dL_law_736 : decode cL_law 736 = .ok (.iload_n 3, 1) := by decide +kernel
theorem dL_law_737 : decode cL_law 737 = .ok (.iconst 2, 1) := by decide +kernel
theorem dL_law_738 : decode cL_law 738 = .ok (.iadd, 1) := by decide +kernel
theorem dL_law_739 : decode cL_law 739 = .ok (.iaload, 1) := by decide +kernel
theorem dL_law_740 : decode cL_law 740 = .ok (.aload_n 0, 1) := by decide +kernel
theorem dL_law_741 : decode cL_law 741 = .ok (.iload_n 3, 1) := by decide +kernel
theorem dL_law_742 : decode cL_law 742 = .ok (.iconst 3, 1) := by decide +kernel
theorem dL_law_743 : decode cL_law 743 = .ok (.iadd, 1) := by decide +kernel
theorem dL_law_744 : decode cL_law 744 = .ok (.iaload, 1) := by decide +kernel
theorem dL_law_745 : decode cL_law 745 = .ok (.invokevirtual 101, 3) := by decide +kernel
theorem dL_law_748 : decode cL_law 748 = .ok (.aload_n 2, 1) := by decide +kernel
theorem dL_law_749 : decode cL_law 749 = .ok (.aload_n 0, 1) := by decide +kernel
theorem dL_law_750 : decode cL_law 750 = .ok (.iload_n 3, 1) := by decide +kernel
theorem dL_law_751 : decode cL_law 751 = .ok (.iconst 1, 1) := by decide +kernel
theorem dL_law_752 : decode cL_law 752 = .ok (.iadd, 1) := by decide +kernel
theorem dL_law_753 : decode cL_law 753 = .ok (.iaload, 1) := by decide +kernel
theorem dL_law_754 : decode cL_law 754 = .ok (.aload_n 0, 1) := by decide +kernel
theorem dL_law_755 : decode cL_law 755 = .ok (.iload_n 3, 1) := by decide +kernel
theorem dL_law_756 : decode cL_law 756 = .ok (.iconst 2, 1) := by decide +kernel
theorem dL_law_757 : decode cL_law 757 = .ok (.iadd, 1) := by decide +kernel
theorem dL_law_758 : decode cL_law 758 = .ok (.iaload, 1) := by decide +kernel
theorem dL_law_759 : decode cL_law 759 = .ok (.aload_n 0, 1) := by decide +kernel
theorem dL_law_760 : decode cL_law 760 = .ok (.iload_n 3, 1) := by decide +kernel
theorem dL_law_761 : decode cL_law 761 = .ok (.iconst 3, 1) := by decide +kernel
theorem dL_law_762 : decode cL_law 762 = .ok (.iadd, 1) := by decide +kernel
theorem dL_law_763 : decode cL_law 763 = .ok (.iaload, 1) := by decide +kernel
theorem dL_law_764 : decode cL_law 764 = .ok (.invokevirtual 104, 3) := by decide +kernel
theorem dL_law_767 : decode cL_law 767 = .ok (.if_icmp .eq 486, 3) := by decide +kernel
theorem dL_law_770 : decode cL_law 770 = .ok (.iconst 0, 1) := by decide +kernel
theorem dL_law_771 : decode cL_law 771 = .ok (.ireturn, 1) := by decide +kernel
theorem dL_law_772 : decode cL_law 772 = .ok (.aload_n 1, 1) := by decide +kernel
theorem dL_law_773 : decode cL_law 773 = .ok (.aload_n 0, 1) := by decide +kernel
theorem dL_law_774 : decode cL_law 774 = .ok (.iload_n 3, 1) := by decide +kernel
theorem dL_law_775 : decode cL_law 775 = .ok (.iconst 1, 1) := by decide +kernel
theorem dL_law_776 : decode cL_law 776 = .ok (.iadd, 1) := by decide +kernel
theorem dL_law_777 : decode cL_law 777 = .ok (.iaload, 1) := by decide +kernel
theorem dL_law_778 : decode cL_law 778 = .ok (.invokevirtual 105, 3) := by decide +kernel
theorem dL_law_781 : decode cL_law 781 = .ok (.aload_n 2, 1) := by decide +kernel
theorem dL_law_782 : decode cL_law 782 = .ok (.aload_n 0, 1) := by decide +kernel
theorem dL_law_783 : decode cL_law 783 = .ok (.iload_n 3, 1) := by decide +kernel
theorem dL_law_784 : decode cL_law 784 = .ok (.iconst 1, 1) := by decide +kernel
theorem dL_law_785 : decode cL_law 785 = .ok (.iadd, 1) := by decide +kernel
theorem dL_law_786 : decode cL_law 786 = .ok (.iaload, 1) := by decide +kernel
theorem dL_law_787 : decode cL_law 787 = .ok (.invokevirtual 108, 3) := by decide +kernel
theorem dL_law_790 : decode cL_law 790 = .ok (.if_icmp .eq 463, 3) := by decide +kernel
theorem dL_law_793 : decode cL_law 793 = .ok (.iconst 0, 1) := by decide +kernel
theorem dL_law_794 : decode cL_law 794 = .ok (.ireturn, 1) := by decide +kernel
theorem dL_law_795 : decode cL_law 795 = .ok (.aload_n 1, 1) := by decide +kernel
theorem dL_law_796 : decode cL_law 796 = .ok (.aload_n 0, 1) := by decide +kernel
theorem dL_law_797 : decode cL_law 797 = .ok (.iload_n 3, 1) := by decide +kernel
theorem dL_law_798 : decode cL_law 798 = .ok (.iconst 1, 1) := by decide +kernel
theorem dL_law_799 : decode cL_law 799 = .ok (.iadd, 1) := by decide +kernel
theorem dL_law_800 : decode cL_law 800 = .ok (.iaload, 1) := by decide +kernel
theorem dL_law_801 : decode cL_law 801 = .ok (.invokevirtual 109, 3) := by decide +kernel
theorem dL_law_804 : decode cL_law 804 = .ok (.aload_n 2, 1) := by decide +kernel
theorem dL_law_805 : decode cL_law 805 = .ok (.aload_n 0, 1) := by decide +kernel
theorem dL_law_806 : decode cL_law 806 = .ok (.iload_n 3, 1) := by decide +kernel
theorem dL_law_807 : decode cL_law 807 = .ok (.iconst 1, 1) := by decide +kernel
theorem dL_law_808 : decode cL_law 808 = .ok (.iadd, 1) := by decide +kernel
theorem dL_law_809 : decode cL_law 809 = .ok (.iaload, 1) := by decide +kernel
theorem dL_law_810 : decode cL_law 810 = .ok (.invokevirtual 112, 3) := by decide +kernel
theorem dL_law_813 : decode cL_law 813 = .ok (.if_icmp .eq 440, 3) := by decide +kernel
theorem dL_law_816 : decode cL_law 816 = .ok (.iconst 0, 1) := by decide +kernel
theorem dL_law_817 : decode cL_law 817 = .ok (.ireturn, 1) := by decide +kernel
theorem dL_law_818 : decode cL_law 818 = .ok (.aload_n 1, 1) := by decide +kernel
theorem dL_law_819 : decode cL_law 819 = .ok (.aload_n 0, 1) := by decide +kernel
theorem dL_law_820 : decode cL_law 820 = .ok (.iload_n 3, 1) := by decide +kernel
theorem dL_law_821 : decode cL_law 821 = .ok (.iconst 1, 1) := by decide +kernel
theorem dL_law_822 : decode cL_law 822 = .ok (.iadd, 1) := by decide +kernel
theorem dL_law_823 : decode cL_law 823 = .ok (.iaload, 1) := by decide +kernel
theorem dL_law_824 : decode cL_law 824 = .ok (.aload_n 0, 1) := by decide +kernel
theorem dL_law_825 : decode cL_law 825 = .ok (.iload_n 3, 1) := by decide +kernel
theorem dL_law_826 : decode cL_law 826 = .ok (.iconst 2, 1) := by decide +kernel
theorem dL_law_827 : decode cL_law 827 = .ok (.iadd, 1) := by decide +kernel
theorem dL_law_828 : decode cL_law 828 = .ok (.iaload, 1) := by decide +kernel
theorem dL_law_829 : decode cL_law 829 = .ok (.invokevirtual 113, 3) := by decide +kernel
theorem dL_law_832 : decode cL_law 832 = .ok (.aload_n 2, 1) := by decide +kernel
theorem dL_law_833 : decode cL_law 833 = .ok (.aload_n 0, 1) := by decide +kernel
theorem dL_law_834 : decode cL_law 834 = .ok (.iload_n 3, 1) := by decide +kernel
theorem dL_law_835 : decode cL_law 835 = .ok (.iconst 1, 1) := by decide +kernel
theorem dL_law_836 : decode cL_law 836 = .ok (.iadd, 1) := by decide +kernel
theorem dL_law_837 : decode cL_law 837 = .ok (.iaload, 1) := by decide +kernel
theorem dL_law_838 : decode cL_law 838 = .ok (.aload_n 0, 1) := by decide +kernel
theorem dL_law_839 : decode cL_law 839 = .ok (.iload_n 3, 1) := by decide +kernel
theorem dL_law_840 : decode cL_law 840 = .ok (.iconst 2, 1) := by decide +kernel
theorem dL_law_841 : decode cL_law 841 = .ok (.iadd, 1) := by decide +kernel
theorem dL_law_842 : decode cL_law 842 = .ok (.iaload, 1) := by decide +kernel
theorem dL_law_843 : decode cL_law 843 = .ok (.invokevirtual 116, 3) := by decide +kernel
theorem dL_law_846 : decode cL_law 846 = .ok (.if_icmp .eq 407, 3) := by decide +kernel
theorem dL_law_849 : decode cL_law 849 = .ok (.iconst 0, 1) := by decide +kernel
theorem dL_law_850 : decode cL_law 850 = .ok (.ireturn, 1) := by decide +kernel
theorem dL_law_851 : decode cL_law 851 = .ok (.aload_n 1, 1) := by decide +kernel
theorem dL_law_852 : decode cL_law 852 = .ok (.aload_n 0, 1) := by decide +kernel
theorem dL_law_853 : decode cL_law 853 = .ok (.iload_n 3, 1) := by decide +kernel
theorem dL_law_854 : decode cL_law 854 = .ok (.iconst 1, 1) := by decide +kernel
theorem dL_law_855 : decode cL_law 855 = .ok (.iadd, 1) := by decide +kernel
theorem dL_law_856 : decode cL_law 856 = .ok (.iaload, 1) := by decide +kernel
theorem dL_law_857 : decode cL_law 857 = .ok (.aload_n 0, 1) := by decide +kernel
theorem dL_law_858 : decode cL_law 858 = .ok (.iload_n 3, 1) := by decide +kernel
theorem dL_law_859 : decode cL_law 859 = .ok (.iconst 2, 1) := by decide +kernel
theorem dL_law_860 : decode cL_law 860 = .ok (.iadd, 1) := by decide +kernel
theorem dL_law_861 : decode cL_law 861 = .ok (.iaload, 1) := by decide +kernel
theorem dL_law_862 : decode cL_law 862 = .ok (.aload_n 0, 1) := by decide +kernel
theorem dL_law_863 : decode cL_law 863 = .ok (.iload_n 3, 1) := by decide +kernel
theorem dL_law_864 : decode cL_law 864 = .ok (.iconst 3, 1) := by decide +kernel
theorem dL_law_865 : decode cL_law 865 = .ok (.iadd, 1) := by decide +kernel
theorem dL_law_866 : decode cL_law 866 = .ok (.iaload, 1) := by decide +kernel
theorem dL_law_867 : decode cL_law 867 = .ok (.aload_n 0, 1) := by decide +kernel
theorem dL_law_868 : decode cL_law 868 = .ok (.iload_n 3, 1) := by decide +kernel
theorem dL_law_869 : decode cL_law 869 = .ok (.iconst 4, 1) := by decide +kernel
theorem dL_law_870 : decode cL_law 870 = .ok (.iadd, 1) := by decide +kernel
theorem dL_law_871 : decode cL_law 871 = .ok (.iaload, 1) := by decide +kernel
theorem dL_law_872 : decode cL_law 872 = .ok (.aload_n 0, 1) := by decide +kernel
theorem dL_law_873 : decode cL_law 873 = .ok (.iload_n 3, 1) := by decide +kernel
theorem dL_law_874 : decode cL_law 874 = .ok (.iconst 5, 1) := by decide +kernel
theorem dL_law_875 : decode cL_law 875 = .ok (.iadd, 1) := by decide +kernel
theorem dL_law_876 : decode cL_law 876 = .ok (.iaload, 1) := by decide +kernel
theorem dL_law_877 : decode cL_law 877 = .ok (.aload_n 0, 1) := by decide +kernel
theorem dL_law_878 : decode cL_law 878 = .ok (.iload_n 3, 1) := by decide +kernel
theorem dL_law_879 : decode cL_law 879 = .ok (.bipush 6, 2) := by decide +kernel
theorem dL_law_881 : decode cL_law 881 = .ok (.iadd, 1) := by decide +kernel
theorem dL_law_882 : decode cL_law 882 = .ok (.iaload, 1) := by decide +kernel
theorem dL_law_883 : decode cL_law 883 = .ok (.invokevirtual 117, 3) := by decide +kernel
theorem dL_law_886 : decode cL_law 886 = .ok (.aload_n 2, 1) := by decide +kernel
theorem dL_law_887 : decode cL_law 887 = .ok (.aload_n 0, 1) := by decide +kernel
theorem dL_law_888 : decode cL_law 888 = .ok (.iload_n 3, 1) := by decide +kernel
theorem dL_law_889 : decode cL_law 889 = .ok (.iconst 1, 1) := by decide +kernel
theorem dL_law_890 : decode cL_law 890 = .ok (.iadd, 1) := by decide +kernel
theorem dL_law_891 : decode cL_law 891 = .ok (.iaload, 1) := by decide +kernel
theorem dL_law_892 : decode cL_law 892 = .ok (.aload_n 0, 1) := by decide +kernel
theorem dL_law_893 : decode cL_law 893 = .ok (.iload_n 3, 1) := by decide +kernel
theorem dL_law_894 : decode cL_law 894 = .ok (.iconst 2, 1) := by decide +kernel
theorem dL_law_895 : decode cL_law 895 = .ok (.iadd, 1) := by decide +kernel
theorem dL_law_896 : decode cL_law 896 = .ok (.iaload, 1) := by decide +kernel
theorem dL_law_897 : decode cL_law 897 = .ok (.aload_n 0, 1) := by decide +kernel
theorem dL_law_898 : decode cL_law 898 = .ok (.iload_n 3, 1) := by decide +kernel
theorem dL_law_899 : decode cL_law 899 = .ok (.iconst 3, 1) := by decide +kernel
theorem dL_law_900 : decode cL_law 900 = .ok (.iadd, 1) := by decide +kernel
theorem dL_law_901 : decode cL_law 901 = .ok (.iaload, 1) := by decide +kernel
theorem dL_law_902 : decode cL_law 902 = .ok (.aload_n 0, 1) := by decide +kernel
theorem dL_law_903 : decode cL_law 903 = .ok (.iload_n 3, 1) := by decide +kernel
theorem dL_law_904 : decode cL_law 904 = .ok (.iconst 4, 1) := by decide +kernel
theorem dL_law_905 : decode cL_law 905 = .ok (.iadd, 1) := by decide +kernel
theorem dL_law_906 : decode cL_law 906 = .ok (.iaload, 1) := by decide +kernel
theorem dL_law_907 : decode cL_law 907 = .ok (.aload_n 0, 1) := by decide +kernel
theorem dL_law_908 : decode cL_law 908 = .ok (.iload_n 3, 1) := by decide +kernel
theorem dL_law_909 : decode cL_law 909 = .ok (.iconst 5, 1) := by decide +kernel
theorem dL_law_910 : decode cL_law 910 = .ok (.iadd, 1) := by decide +kernel
theorem dL_law_911 : decode cL_law 911 = .ok (.iaload, 1) := by decide +kernel
theorem dL_law_912 : decode cL_law 912 = .ok (.aload_n 0, 1) := by decide +kernel
theorem dL_law_913 : decode cL_law 913 = .ok (.iload_n 3, 1) := by decide +kernel
theorem dL_law_914 : decode cL_law 914 = .ok (.bipush 6, 2) := by decide +kernel
theorem dL_law_916 : decode cL_law 916 = .ok (.iadd, 1) := by decide +kernel
theorem dL_law_917 : decode cL_law 917 = .ok (.iaload, 1) := by decide +kernel
theorem dL_law_918 : decode cL_law 918 = .ok (.invokevirtual 121, 3) := by decide +kernel
theorem dL_law_921 : decode cL_law 921 = .ok (.if_icmp .eq 332, 3) := by decide +kernel
theorem dL_law_924 : decode cL_law 924 = .ok (.iconst 0, 1) := by decide +kernel
theorem dL_law_925 : decode cL_law 925 = .ok (.ireturn, 1) := by decide +kernel
theorem dL_law_926 : decode cL_law 926 = .ok (.aload_n 1, 1) := by decide +kernel
theorem dL_law_927 : decode cL_law 927 = .ok (.aload_n 0, 1) := by decide +kernel
theorem dL_law_928 : decode cL_law 928 = .ok (.iload_n 3, 1) := by decide +kernel
theorem dL_law_929 : decode cL_law 929 = .ok (.iconst 1, 1) := by decide +kernel
theorem dL_law_930 : decode cL_law 930 = .ok (.iadd, 1) := by decide +kernel
theorem dL_law_931 : decode cL_law 931 = .ok (.iaload, 1) := by decide +kernel
theorem dL_law_932 : decode cL_law 932 = .ok (.aload_n 0, 1) := by decide +kernel
theorem dL_law_933 : decode cL_law 933 = .ok (.iload_n 3, 1) := by decide +kernel
theorem dL_law_934 : decode cL_law 934 = .ok (.iconst 2, 1) := by decide +kernel
theorem dL_law_935 : decode cL_law 935 = .ok (.iadd, 1) := by decide +kernel
theorem dL_law_936 : decode cL_law 936 = .ok (.iaload, 1) := by decide +kernel
theorem dL_law_937 : decode cL_law 937 = .ok (.aload_n 0, 1) := by decide +kernel
theorem dL_law_938 : decode cL_law 938 = .ok (.iload_n 3, 1) := by decide +kernel
theorem dL_law_939 : decode cL_law 939 = .ok (.iconst 3, 1) := by decide +kernel
theorem dL_law_940 : decode cL_law 940 = .ok (.iadd, 1) := by decide +kernel
theorem dL_law_941 : decode cL_law 941 = .ok (.iaload, 1) := by decide +kernel
theorem dL_law_942 : decode cL_law 942 = .ok (.invokevirtual 122, 3) := by decide +kernel
theorem dL_law_945 : decode cL_law 945 = .ok (.aload_n 2, 1) := by decide +kernel
theorem dL_law_946 : decode cL_law 946 = .ok (.aload_n 0, 1) := by decide +kernel
theorem dL_law_947 : decode cL_law 947 = .ok (.iload_n 3, 1) := by decide +kernel
theorem dL_law_948 : decode cL_law 948 = .ok (.iconst 1, 1) := by decide +kernel
theorem dL_law_949 : decode cL_law 949 = .ok (.iadd, 1) := by decide +kernel
theorem dL_law_950 : decode cL_law 950 = .ok (.iaload, 1) := by decide +kernel
theorem dL_law_951 : decode cL_law 951 = .ok (.aload_n 0, 1) := by decide +kernel
theorem dL_law_952 : decode cL_law 952 = .ok (.iload_n 3, 1) := by decide +kernel
theorem dL_law_953 : decode cL_law 953 = .ok (.iconst 2, 1) := by decide +kernel
theorem dL_law_954 : decode cL_law 954 = .ok (.iadd, 1) := by decide +kernel
theorem dL_law_955 : decode cL_law 955 = .ok (.iaload, 1) := by decide +kernel
theorem dL_law_956 : decode cL_law 956 = .ok (.aload_n 0, 1) := by decide +kernel
theorem dL_law_957 : decode cL_law 957 = .ok (.iload_n 3, 1) := by decide +kernel
theorem dL_law_958 : decode cL_law 958 = .ok (.iconst 3, 1) := by decide +kernel
theorem dL_law_959 : decode cL_law 959 = .ok (.iadd, 1) := by decide +kernel
theorem dL_law_960 : decode cL_law 960 = .ok (.iaload, 1) := by decide +kernel
theorem dL_law_961 : decode cL_law 961 = .ok (.invokevirtual 125, 3) := by decide +kernel
theorem dL_law_964 : decode cL_law 964 = .ok (.if_icmp .eq 289, 3) := by decide +kernel
theorem dL_law_967 : decode cL_law 967 = .ok (.iconst 0, 1) := by decide +kernel
theorem dL_law_968 : decode cL_law 968 = .ok (.ireturn, 1) := by decide +kernel
theorem dL_law_969 : decode cL_law 969 = .ok (.aload_n 1, 1) := by decide +kernel
theorem dL_law_970 : decode cL_law 970 = .ok (.aload_n 0, 1) := by decide +kernel
theorem dL_law_971 : decode cL_law 971 = .ok (.iload_n 3, 1) := by decide +kernel
theorem dL_law_972 : decode cL_law 972 = .ok (.iconst 1, 1) := by decide +kernel
theorem dL_law_973 : decode cL_law 973 = .ok (.iadd, 1) := by decide +kernel
theorem dL_law_974 : decode cL_law 974 = .ok (.iaload, 1) := by decide +kernel
theorem dL_law_975 : decode cL_law 975 = .ok (.aload_n 0, 1) := by decide +kernel
theorem dL_law_976 : decode cL_law 976 = .ok (.iload_n 3, 1) := by decide +kernel
theorem dL_law_977 : decode cL_law 977 = .ok (.iconst 2, 1) := by decide +kernel
theorem dL_law_978 : decode cL_law 978 = .ok (.iadd, 1) := by decide +kernel
theorem dL_law_979 : decode cL_law 979 = .ok (.iaload, 1) := by decide +kernel
theorem dL_law_980 : decode cL_law 980 = .ok (.invokevirtual 126, 3) := by decide +kernel
theorem dL_law_983 : decode cL_law 983 = .ok (.aload_n 2, 1) := by decide +kernel
theorem dL_law_984 : decode cL_law 984 = .ok (.aload_n 0, 1) := by decide +kernel
theorem dL_law_985 : decode cL_law 985 = .ok (.iload_n 3, 1) := by decide +kernel
theorem dL_law_986 : decode cL_law 986 = .ok (.iconst 1, 1) := by decide +kernel
theorem dL_law_987 : decode cL_law 987 = .ok (.iadd, 1) := by decide +kernel
theorem dL_law_988 : decode cL_law 988 = .ok (.iaload, 1) := by decide +kernel
theorem dL_law_989 : decode cL_law 989 = .ok (.aload_n 0, 1) := by decide +kernel
theorem dL_law_990 : decode cL_law 990 = .ok (.iload_n 3, 1) := by decide +kernel
theorem dL_law_991 : decode cL_law 991 = .ok (.iconst 2, 1) := by decide +kernel
theorem dL_law_992 : decode cL_law 992 = .ok (.iadd, 1) := by decide +kernel
theorem dL_law_993 : decode cL_law 993 = .ok (.iaload, 1) := by decide +kernel
theorem dL_law_994 : decode cL_law 994 = .ok (.invokevirtual 129, 3) := by decide +kernel
theorem dL_law_997 : decode cL_law 997 = .ok (.if_icmp .eq 256, 3) := by decide +kernel
theorem dL_law_1000 : decode cL_law 1000 = .ok (.iconst 0, 1) := by decide +kernel
theorem dL_law_1001 : decode cL_law 1001 = .ok (.ireturn, 1) := by decide +kernel
theorem dL_law_1002 : decode cL_law 1002 = .ok (.aload_n 1, 1) := by decide +kernel
theorem dL_law_1003 : decode cL_law 1003 = .ok (.invokevirtual 130, 3) := by decide +kernel
theorem dL_law_1006 : decode cL_law 1006 = .ok (.aload_n 2, 1) := by decide +kernel
theorem dL_law_1007 : decode cL_law 1007 = .ok (.invokevirtual 133, 3) := by decide +kernel
theorem dL_law_1010 : decode cL_law 1010 = .ok (.if_icmp .eq 243, 3) := by decide +kernel
theorem dL_law_1013 : decode cL_law 1013 = .ok (.iconst 0, 1) := by decide +kernel
theorem dL_law_1014 : decode cL_law 1014 = .ok (.ireturn, 1) := by decide +kernel
theorem dL_law_1015 : decode cL_law 1015 = .ok (.aload_n 1, 1) := by decide +kernel
theorem dL_law_1016 : decode cL_law 1016 = .ok (.aload_n 0, 1) := by decide +kernel
theorem dL_law_1017 : decode cL_law 1017 = .ok (.iload_n 3, 1) := by decide +kernel
theorem dL_law_1018 : decode cL_law 1018 = .ok (.iconst 1, 1) := by decide +kernel
theorem dL_law_1019 : decode cL_law 1019 = .ok (.iadd, 1) := by decide +kernel
theorem dL_law_1020 : decode cL_law 1020 = .ok (.iaload, 1) := by decide +kernel
theorem dL_law_1021 : decode cL_law 1021 = .ok (.aload_n 0, 1) := by decide +kernel
theorem dL_law_1022 : decode cL_law 1022 = .ok (.iload_n 3, 1) := by decide +kernel
theorem dL_law_1023 : decode cL_law 1023 = .ok (.iconst 2, 1) := by decide +kernel
theorem dL_law_1024 : decode cL_law 1024 = .ok (.iadd, 1) := by decide +kernel
theorem dL_law_1025 : decode cL_law 1025 = .ok (.iaload, 1) := by decide +kernel
theorem dL_law_1026 : decode cL_law 1026 = .ok (.aload_n 0, 1) := by decide +kernel
theorem dL_law_1027 : decode cL_law 1027 = .ok (.iload_n 3, 1) := by decide +kernel
theorem dL_law_1028 : decode cL_law 1028 = .ok (.iconst 3, 1) := by decide +kernel
theorem dL_law_1029 : decode cL_law 1029 = .ok (.iadd, 1) := by decide +kernel
theorem dL_law_1030 : decode cL_law 1030 = .ok (.iaload, 1) := by decide +kernel
theorem dL_law_1031 : decode cL_law 1031 = .ok (.aload_n 0, 1) := by decide +kernel
theorem dL_law_1032 : decode cL_law 1032 = .ok (.iload_n 3, 1) := by decide +kernel
theorem dL_law_1033 : decode cL_law 1033 = .ok (.iconst 4, 1) := by decide +kernel
theorem dL_law_1034 : decode cL_law 1034 = .ok (.iadd, 1) := by decide +kernel
theorem dL_law_1035 : decode cL_law 1035 = .ok (.iaload, 1) := by decide +kernel
theorem dL_law_1036 : decode cL_law 1036 = .ok (.aload_n 0, 1) := by decide +kernel
theorem dL_law_1037 : decode cL_law 1037 = .ok (.iload_n 3, 1) := by decide +kernel
theorem dL_law_1038 : decode cL_law 1038 = .ok (.iconst 5, 1) := by decide +kernel
theorem dL_law_1039 : decode cL_law 1039 = .ok (.iadd, 1) := by decide +kernel
theorem dL_law_1040 : decode cL_law 1040 = .ok (.iaload, 1) := by decide +kernel
theorem dL_law_1041 : decode cL_law 1041 = .ok (.aload_n 0, 1) := by decide +kernel
theorem dL_law_1042 : decode cL_law 1042 = .ok (.iload_n 3, 1) := by decide +kernel
theorem dL_law_1043 : decode cL_law 1043 = .ok (.bipush 6, 2) := by decide +kernel
theorem dL_law_1045 : decode cL_law 1045 = .ok (.iadd, 1) := by decide +kernel
theorem dL_law_1046 : decode cL_law 1046 = .ok (.iaload, 1) := by decide +kernel
theorem dL_law_1047 : decode cL_law 1047 = .ok (.invokevirtual 134, 3) := by decide +kernel
theorem dL_law_1050 : decode cL_law 1050 = .ok (.aload_n 2, 1) := by decide +kernel
theorem dL_law_1051 : decode cL_law 1051 = .ok (.aload_n 0, 1) := by decide +kernel
theorem dL_law_1052 : decode cL_law 1052 = .ok (.iload_n 3, 1) := by decide +kernel
theorem dL_law_1053 : decode cL_law 1053 = .ok (.iconst 1, 1) := by decide +kernel
theorem dL_law_1054 : decode cL_law 1054 = .ok (.iadd, 1) := by decide +kernel
theorem dL_law_1055 : decode cL_law 1055 = .ok (.iaload, 1) := by decide +kernel
theorem dL_law_1056 : decode cL_law 1056 = .ok (.aload_n 0, 1) := by decide +kernel
theorem dL_law_1057 : decode cL_law 1057 = .ok (.iload_n 3, 1) := by decide +kernel
theorem dL_law_1058 : decode cL_law 1058 = .ok (.iconst 2, 1) := by decide +kernel
theorem dL_law_1059 : decode cL_law 1059 = .ok (.iadd, 1) := by decide +kernel
theorem dL_law_1060 : decode cL_law 1060 = .ok (.iaload, 1) := by decide +kernel
theorem dL_law_1061 : decode cL_law 1061 = .ok (.aload_n 0, 1) := by decide +kernel
theorem dL_law_1062 : decode cL_law 1062 = .ok (.iload_n 3, 1) := by decide +kernel
theorem dL_law_1063 : decode cL_law 1063 = .ok (.iconst 3, 1) := by decide +kernel
theorem dL_law_1064 : decode cL_law 1064 = .ok (.iadd, 1) := by decide +kernel
theorem dL_law_1065 : decode cL_law 1065 = .ok (.iaload, 1) := by decide +kernel
theorem dL_law_1066 : decode cL_law 1066 = .ok (.aload_n 0, 1) := by decide +kernel
theorem dL_law_1067 : decode cL_law 1067 = .ok (.iload_n 3, 1) := by decide +kernel
theorem dL_law_1068 : decode cL_law 1068 = .ok (.iconst 4, 1) := by decide +kernel
theorem dL_law_1069 : decode cL_law 1069 = .ok (.iadd, 1) := by decide +kernel
theorem dL_law_1070 : decode cL_law 1070 = .ok (.iaload, 1) := by decide +kernel
theorem dL_law_1071 : decode cL_law 1071 = .ok (.aload_n 0, 1) := by decide +kernel
theorem dL_law_1072 : decode cL_law 1072 = .ok (.iload_n 3, 1) := by decide +kernel
theorem dL_law_1073 : decode cL_law 1073 = .ok (.iconst 5, 1) := by decide +kernel
theorem dL_law_1074 : decode cL_law 1074 = .ok (.iadd, 1) := by decide +kernel
theorem dL_law_1075 : decode cL_law 1075 = .ok (.iaload, 1) := by decide +kernel
theorem dL_law_1076 : decode cL_law 1076 = .ok (.aload_n 0, 1) := by decide +kernel
theorem dL_law_1077 : decode cL_law 1077 = .ok (.iload_n 3, 1) := by decide +kernel
theorem dL_law_1078 : decode cL_law 1078 = .ok (.bipush 6, 2) := by decide +kernel
theorem dL_law_1080 : decode cL_law 1080 = .ok (.iadd, 1) := by decide +kernel
theorem dL_law_1081 : decode cL_law 1081 = .ok (.iaload, 1) := by decide +kernel
theorem dL_law_1082 : decode cL_law 1082 = .ok (.invokevirtual 137, 3) := by decide +kernel
theorem dL_law_1085 : decode cL_law 1085 = .ok (.if_icmp .eq 168, 3) := by decide +kernel
theorem dL_law_1088 : decode cL_law 1088 = .ok (.iconst 0, 1) := by decide +kernel
theorem dL_law_1089 : decode cL_law 1089 = .ok (.ireturn, 1) := by decide +kernel
theorem dL_law_1090 : decode cL_law 1090 = .ok (.aload_n 1, 1) := by decide +kernel
theorem dL_law_1091 : decode cL_law 1091 = .ok (.aload_n 0, 1) := by decide +kernel
theorem dL_law_1092 : decode cL_law 1092 = .ok (.iload_n 3, 1) := by decide +kernel
theorem dL_law_1093 : decode cL_law 1093 = .ok (.iconst 1, 1) := by decide +kernel
theorem dL_law_1094 : decode cL_law 1094 = .ok (.iadd, 1) := by decide +kernel
theorem dL_law_1095 : decode cL_law 1095 = .ok (.iaload, 1) := by decide +kernel
theorem dL_law_1096 : decode cL_law 1096 = .ok (.aload_n 0, 1) := by decide +kernel
theorem dL_law_1097 : decode cL_law 1097 = .ok (.iload_n 3, 1) := by decide +kernel
theorem dL_law_1098 : decode cL_law 1098 = .ok (.iconst 2, 1) := by decide +kernel
theorem dL_law_1099 : decode cL_law 1099 = .ok (.iadd, 1) := by decide +kernel
theorem dL_law_1100 : decode cL_law 1100 = .ok (.iaload, 1) := by decide +kernel
theorem dL_law_1101 : decode cL_law 1101 = .ok (.invokevirtual 138, 3) := by decide +kernel
theorem dL_law_1104 : decode cL_law 1104 = .ok (.aload_n 2, 1) := by decide +kernel
theorem dL_law_1105 : decode cL_law 1105 = .ok (.aload_n 0, 1) := by decide +kernel
theorem dL_law_1106 : decode cL_law 1106 = .ok (.iload_n 3, 1) := by decide +kernel
theorem dL_law_1107 : decode cL_law 1107 = .ok (.iconst 1, 1) := by decide +kernel
theorem dL_law_1108 : decode cL_law 1108 = .ok (.iadd, 1) := by decide +kernel
theorem dL_law_1109 : decode cL_law 1109 = .ok (.iaload, 1) := by decide +kernel
theorem dL_law_1110 : decode cL_law 1110 = .ok (.aload_n 0, 1) := by decide +kernel
theorem dL_law_1111 : decode cL_law 1111 = .ok (.iload_n 3, 1) := by decide +kernel
theorem dL_law_1112 : decode cL_law 1112 = .ok (.iconst 2, 1) := by decide +kernel
theorem dL_law_1113 : decode cL_law 1113 = .ok (.iadd, 1) := by decide +kernel
theorem dL_law_1114 : decode cL_law 1114 = .ok (.iaload, 1) := by decide +kernel
theorem dL_law_1115 : decode cL_law 1115 = .ok (.invokevirtual 141, 3) := by decide +kernel
theorem dL_law_1118 : decode cL_law 1118 = .ok (.if_icmp .eq 135, 3) := by decide +kernel
theorem dL_law_1121 : decode cL_law 1121 = .ok (.iconst 0, 1) := by decide +kernel
theorem dL_law_1122 : decode cL_law 1122 = .ok (.ireturn, 1) := by decide +kernel
theorem dL_law_1123 : decode cL_law 1123 = .ok (.aload_n 1, 1) := by decide +kernel
theorem dL_law_1124 : decode cL_law 1124 = .ok (.aload_n 0, 1) := by decide +kernel
theorem dL_law_1125 : decode cL_law 1125 = .ok (.iload_n 3, 1) := by decide +kernel
theorem dL_law_1126 : decode cL_law 1126 = .ok (.iconst 1, 1) := by decide +kernel
theorem dL_law_1127 : decode cL_law 1127 = .ok (.iadd, 1) := by decide +kernel
theorem dL_law_1128 : decode cL_law 1128 = .ok (.iaload, 1) := by decide +kernel
theorem dL_law_1129 : decode cL_law 1129 = .ok (.invokevirtual 142, 3) := by decide +kernel
theorem dL_law_1132 : decode cL_law 1132 = .ok (.aload_n 2, 1) := by decide +kernel
theorem dL_law_1133 : decode cL_law 1133 = .ok (.aload_n 0, 1) := by decide +kernel
theorem dL_law_1134 : decode cL_law 1134 = .ok (.iload_n 3, 1) := by decide +kernel
theorem dL_law_1135 : decode cL_law 1135 = .ok (.iconst 1, 1) := by decide +kernel
theorem dL_law_1136 : decode cL_law 1136 = .ok (.iadd, 1) := by decide +kernel
theorem dL_law_1137 : decode cL_law 1137 = .ok (.iaload, 1) := by decide +kernel
theorem dL_law_1138 : decode cL_law 1138 = .ok (.invokevirtual 146, 3) := by decide +kernel
theorem dL_law_1141 : decode cL_law 1141 = .ok (.lcmp, 1) := by decide +kernel
theorem dL_law_1142 : decode cL_law 1142 = .ok (.ifCond .eq 111, 3) := by decide +kernel
theorem dL_law_1145 : decode cL_law 1145 = .ok (.iconst 0, 1) := by decide +kernel
theorem dL_law_1146 : decode cL_law 1146 = .ok (.ireturn, 1) := by decide +kernel
theorem dL_law_1147 : decode cL_law 1147 = .ok (.aload_n 1, 1) := by decide +kernel
theorem dL_law_1148 : decode cL_law 1148 = .ok (.aload_n 0, 1) := by decide +kernel
theorem dL_law_1149 : decode cL_law 1149 = .ok (.iload_n 3, 1) := by decide +kernel
theorem dL_law_1150 : decode cL_law 1150 = .ok (.iconst 1, 1) := by decide +kernel
theorem dL_law_1151 : decode cL_law 1151 = .ok (.iadd, 1) := by decide +kernel
theorem dL_law_1152 : decode cL_law 1152 = .ok (.iaload, 1) := by decide +kernel
theorem dL_law_1153 : decode cL_law 1153 = .ok (.invokevirtual 147, 3) := by decide +kernel
theorem dL_law_1156 : decode cL_law 1156 = .ok (.aload_n 2, 1) := by decide +kernel
theorem dL_law_1157 : decode cL_law 1157 = .ok (.aload_n 0, 1) := by decide +kernel
theorem dL_law_1158 : decode cL_law 1158 = .ok (.iload_n 3, 1) := by decide +kernel
theorem dL_law_1159 : decode cL_law 1159 = .ok (.iconst 1, 1) := by decide +kernel
theorem dL_law_1160 : decode cL_law 1160 = .ok (.iadd, 1) := by decide +kernel
theorem dL_law_1161 : decode cL_law 1161 = .ok (.iaload, 1) := by decide +kernel
theorem dL_law_1162 : decode cL_law 1162 = .ok (.invokevirtual 150, 3) := by decide +kernel
theorem dL_law_1165 : decode cL_law 1165 = .ok (.if_icmp .eq 88, 3) := by decide +kernel
theorem dL_law_1168 : decode cL_law 1168 = .ok (.iconst 0, 1) := by decide +kernel
theorem dL_law_1169 : decode cL_law 1169 = .ok (.ireturn, 1) := by decide +kernel
theorem dL_law_1170 : decode cL_law 1170 = .ok (.aload_n 1, 1) := by decide +kernel
theorem dL_law_1171 : decode cL_law 1171 = .ok (.aload_n 0, 1) := by decide +kernel
theorem dL_law_1172 : decode cL_law 1172 = .ok (.iload_n 3, 1) := by decide +kernel
theorem dL_law_1173 : decode cL_law 1173 = .ok (.iconst 1, 1) := by decide +kernel
theorem dL_law_1174 : decode cL_law 1174 = .ok (.iadd, 1) := by decide +kernel
theorem dL_law_1175 : decode cL_law 1175 = .ok (.iaload, 1) := by decide +kernel
theorem dL_law_1176 : decode cL_law 1176 = .ok (.invokevirtual 151, 3) := by decide +kernel
theorem dL_law_1179 : decode cL_law 1179 = .ok (.aload_n 2, 1) := by decide +kernel
theorem dL_law_1180 : decode cL_law 1180 = .ok (.aload_n 0, 1) := by decide +kernel
theorem dL_law_1181 : decode cL_law 1181 = .ok (.iload_n 3, 1) := by decide +kernel
theorem dL_law_1182 : decode cL_law 1182 = .ok (.iconst 1, 1) := by decide +kernel
theorem dL_law_1183 : decode cL_law 1183 = .ok (.iadd, 1) := by decide +kernel
theorem dL_law_1184 : decode cL_law 1184 = .ok (.iaload, 1) := by decide +kernel
theorem dL_law_1185 : decode cL_law 1185 = .ok (.invokevirtual 154, 3) := by decide +kernel
theorem dL_law_1188 : decode cL_law 1188 = .ok (.if_icmp .eq 65, 3) := by decide +kernel
theorem dL_law_1191 : decode cL_law 1191 = .ok (.iconst 0, 1) := by decide +kernel
theorem dL_law_1192 : decode cL_law 1192 = .ok (.ireturn, 1) := by decide +kernel
theorem dL_law_1193 : decode cL_law 1193 = .ok (.aload_n 1, 1) := by decide +kernel
theorem dL_law_1194 : decode cL_law 1194 = .ok (.aload_n 0, 1) := by decide +kernel
theorem dL_law_1195 : decode cL_law 1195 = .ok (.iload_n 3, 1) := by decide +kernel
theorem dL_law_1196 : decode cL_law 1196 = .ok (.iconst 1, 1) := by decide +kernel
theorem dL_law_1197 : decode cL_law 1197 = .ok (.iadd, 1) := by decide +kernel
theorem dL_law_1198 : decode cL_law 1198 = .ok (.iaload, 1) := by decide +kernel
theorem dL_law_1199 : decode cL_law 1199 = .ok (.invokevirtual 155, 3) := by decide +kernel
theorem dL_law_1202 : decode cL_law 1202 = .ok (.aload_n 2, 1) := by decide +kernel
theorem dL_law_1203 : decode cL_law 1203 = .ok (.aload_n 0, 1) := by decide +kernel
theorem dL_law_1204 : decode cL_law 1204 = .ok (.iload_n 3, 1) := by decide +kernel
theorem dL_law_1205 : decode cL_law 1205 = .ok (.iconst 1, 1) := by decide +kernel
theorem dL_law_1206 : decode cL_law 1206 = .ok (.iadd, 1) := by decide +kernel
theorem dL_law_1207 : decode cL_law 1207 = .ok (.iaload, 1) := by decide +kernel
theorem dL_law_1208 : decode cL_law 1208 = .ok (.invokevirtual 158, 3) := by decide +kernel
theorem dL_law_1211 : decode cL_law 1211 = .ok (.if_icmp .eq 42, 3) := by decide +kernel
theorem dL_law_1214 : decode cL_law 1214 = .ok (.iconst 0, 1) := by decide +kernel
theorem dL_law_1215 : decode cL_law 1215 = .ok (.ireturn, 1) := by decide +kernel
theorem dL_law_1216 : decode cL_law 1216 = .ok (.aload_n 1, 1) := by decide +kernel
theorem dL_law_1217 : decode cL_law 1217 = .ok (.aload_n 0, 1) := by decide +kernel
theorem dL_law_1218 : decode cL_law 1218 = .ok (.iload_n 3, 1) := by decide +kernel
theorem dL_law_1219 : decode cL_law 1219 = .ok (.iconst 1, 1) := by decide +kernel
theorem dL_law_1220 : decode cL_law 1220 = .ok (.iadd, 1) := by decide +kernel
theorem dL_law_1221 : decode cL_law 1221 = .ok (.iaload, 1) := by decide +kernel
theorem dL_law_1222 : decode cL_law 1222 = .ok (.invokevirtual 159, 3) := by decide +kernel
theorem dL_law_1225 : decode cL_law 1225 = .ok (.aload_n 2, 1) := by decide +kernel
theorem dL_law_1226 : decode cL_law 1226 = .ok (.aload_n 0, 1) := by decide +kernel
theorem dL_law_1227 : decode cL_law 1227 = .ok (.iload_n 3, 1) := by decide +kernel
theorem dL_law_1228 : decode cL_law 1228 = .ok (.iconst 1, 1) := by decide +kernel
theorem dL_law_1229 : decode cL_law 1229 = .ok (.iadd, 1) := by decide +kernel
theorem dL_law_1230 : decode cL_law 1230 = .ok (.iaload, 1) := by decide +kernel
theorem dL_law_1231 : decode cL_law 1231 = .ok (.invokevirtual 162, 3) := by decide +kernel
theorem dL_law_1234 : decode cL_law 1234 = .ok (.if_icmp .eq 19, 3) := by decide +kernel
theorem dL_law_1237 : decode cL_law 1237 = .ok (.iconst 0, 1) := by decide +kernel
theorem dL_law_1238 : decode cL_law 1238 = .ok (.ireturn, 1) := by decide +kernel
theorem dL_law_1239 : decode cL_law 1239 = .ok (.aload_n 1, 1) := by decide +kernel
theorem dL_law_1240 : decode cL_law 1240 = .ok (.invokevirtual 163, 3) := by decide +kernel
theorem dL_law_1243 : decode cL_law 1243 = .ok (.aload_n 2, 1) := by decide +kernel
theorem dL_law_1244 : decode cL_law 1244 = .ok (.invokevirtual 167, 3) := by decide +kernel
theorem dL_law_1247 : decode cL_law 1247 = .ok (.lcmp, 1) := by decide +kernel
theorem dL_law_1248 : decode cL_law 1248 = .ok (.ifCond .eq 5, 3) := by decide +kernel
theorem dL_law_1251 : decode cL_law 1251 = .ok (.iconst 0, 1) := by decide +kernel
theorem dL_law_1252 : decode cL_law 1252 = .ok (.ireturn, 1) := by decide +kernel
theorem dL_law_1253 : decode cL_law 1253 = .ok (.iinc 3 7, 3) := by decide +kernel
theorem dL_law_1256 : decode cL_law 1256 = .ok (.goto (-1238), 3) := by decide +kernel
theorem dL_law_1259 : decode cL_law 1259 = .ok (.iconst 1, 1) := by decide +kernel
theorem dL_law_1260 : decode cL_law 1260 = .ok (.ireturn, 1) := by decide +kernel
