theorem dX11_init_73 : decode cX11_init 73 = .ok (.invokespecial 34, 3) := by decide +kernel
theorem dX11_init_76 : decode cX11_init 76 = .ok (.aastore, 1) := by decide +kernel
theorem dX11_init_77 : decode cX11_init 77 = .ok (.astore_n 1, 1) := by decide +kernel
theorem dX11_init_78 : decode cX11_init 78 = .ok (.aload_n 0, 1) := by decide +kernel
theorem dX11_init_79 : decode cX11_init 79 = .ok (.new 35, 3) := by decide +kernel
theorem dX11_init_82 : decode cX11_init 82 = .ok (.dup, 1) := by decide +kernel
theorem dX11_init_83 : decode cX11_init 83 = .ok (.aload_n 1, 1) := by decide +kernel
theorem dX11_init_84 : decode cX11_init 84 = .ok (.invokespecial 37, 3) := by decide +kernel
theorem dX11_init_87 : decode cX11_init 87 = .ok (.putfield 40, 3) := by decide +kernel
theorem dX11_init_90 : decode cX11_init 90 = .ok (.aload_n 0, 1) := by decide +kernel
theorem dX11_init_91 : decode cX11_init 91 = .ok (.new 35, 3) := by decide +kernel
theorem dX11_init_94 : decode cX11_init 94 = .ok (.dup, 1) := by decide +kernel
theorem dX11_init_95 : decode cX11_init 95 = .ok (.aload_n 1, 1) := by decide +kernel
theorem dX11_init_96 : decode cX11_init 96 = .ok (.invokespecial 37, 3) := by decide +kernel
theorem dX11_init_99 : decode cX11_init 99 = .ok (.putfield 44, 3) := by decide +kernel
theorem dX11_init_102 : decode cX11_init 102 = .ok (.aload_n 0, 1) := by decide +kernel
theorem dX11_init_103 : decode cX11_init 103 = .ok (.new 35, 3) := by decide +kernel
theorem dX11_init_106 : decode cX11_init 106 = .ok (.dup, 1) := by decide +kernel
theorem dX11_init_107 : decode cX11_init 107 = .ok (.aload_n 1, 1) := by decide +kernel
theorem dX11_init_108 : decode cX11_init 108 = .ok (.invokespecial 37, 3) := by decide +kernel
theorem dX11_init_111 : decode cX11_init 111 = .ok (.putfield 47, 3) := by decide +kernel
theorem dX11_init_114 : decode cX11_init 114 = .ok (.aload_n 0, 1) := by decide +kernel
theorem dX11_init_115 : decode cX11_init 115 = .ok (.new 35, 3) := by decide +kernel
theorem dX11_init_118 : decode cX11_init 118 = .ok (.dup, 1) := by decide +kernel
theorem dX11_init_119 : decode cX11_init 119 = .ok (.aload_n 1, 1) := by decide +kernel
theorem dX11_init_120 : decode cX11_init 120 = .ok (.invokespecial 37, 3) := by decide +kernel
theorem dX11_init_123 : decode cX11_init 123 = .ok (.putfield 50, 3) := by decide +kernel
theorem dX11_init_126 : decode cX11_init 126 = .ok (.aload_n 0, 1) := by decide +kernel
theorem dX11_init_127 : decode cX11_init 127 = .ok (.new 53, 3) := by decide +kernel
theorem dX11_init_130 : decode cX11_init 130 = .ok (.dup, 1) := by decide +kernel
theorem dX11_init_131 : decode cX11_init 131 = .ok (.aload_n 1, 1) := by decide +kernel
theorem dX11_init_132 : decode cX11_init 132 = .ok (.invokespecial 55, 3) := by decide +kernel
theorem dX11_init_135 : decode cX11_init 135 = .ok (.putfield 56, 3) := by decide +kernel
theorem dX11_init_138 : decode cX11_init 138 = .ok (.aload_n 0, 1) := by decide +kernel
theorem dX11_init_139 : decode cX11_init 139 = .ok (.lconst 1, 1) := by decide +kernel
theorem dX11_init_140 : decode cX11_init 140 = .ok (.putfield 60, 3) := by decide +kernel
theorem dX11_init_143 : decode cX11_init 143 = .ok (.return_, 1) := by decide +kernel
theorem dX11_year_0 : decode cX11_year 0 = .ok (.iload_n 1, 1) := by decide +kernel
theorem dX11_year_1 : decode cX11_year 1 = .ok (.iconst 2, 1) := by decide +kernel
theorem dX11_year_2 : decode cX11_year 2 = .ok (.bipush 70, 2) := by decide +kernel
theorem dX11_year_4 : decode cX11_year 4 = .ok (.invokestatic 64, 3) := by decide +kernel
theorem dX11_year_7 : decode cX11_year 7 = .ok (.ifCond .ne 10, 3) := by decide +kernel
theorem dX11_year_10 : decode cX11_year 10 = .ok (.aload_n 0, 1) := by decide +kernel
theorem dX11_year_11 : decode cX11_year 11 = .ok (.bipush (-2), 2) := by decide +kernel
theorem dX11_year_13 : decode cX11_year 13 = .ok (.invokevirtual 68, 3) := by decide +kernel
theorem dX11_year_16 : decode cX11_year 16 = .ok (.ireturn, 1) := by decide +kernel
theorem dX11_year_17 : decode cX11_year 17 = .ok (.aload_n 0, 1) := by decide +kernel
theorem dX11_year_18 : decode cX11_year 18 = .ok (.getfield 40, 3) := by decide +kernel
theorem dX11_year_21 : decode cX11_year 21 = .ok (.getfield 72, 3) := by decide +kernel
theorem dX11_year_24 : decode cX11_year 24 = .ok (.getfield 76, 3) := by decide +kernel
theorem dX11_year_27 : decode cX11_year 27 = .ok (.istore_n 2, 1) := by decide +kernel
theorem dX11_year_28 : decode cX11_year 28 = .ok (.aload_n 0, 1) := by decide +kernel
theorem dX11_year_29 : decode cX11_year 29 = .ok (.getfield 40, 3) := by decide +kernel
theorem dX11_year_32 : decode cX11_year 32 = .ok (.iload_n 1, 1) := by decide +kernel
theorem dX11_year_33 : decode cX11_year 33 = .ok (.invokevirtual 82, 3) := by decide +kernel
theorem dX11_year_36 : decode cX11_year 36 = .ok (.iload_n 2, 1) := by decide +kernel
theorem dX11_year_37 : decode cX11_year 37 = .ok (.ireturn, 1) := by decide +kernel
theorem dX11_store_0 : decode cX11_store 0 = .ok (.iload_n 1, 1) := by decide +kernel
theorem dX11_store_1 : decode cX11_store 1 = .ok (.iconst 0, 1) := by decide +kernel
theorem dX11_store_2 : decode cX11_store 2 = .ok (.iconst 3, 1) := by decide +kernel
theorem dX11_store_3 : decode cX11_store 3 = .ok (.invokestatic 64, 3) := by decide +kernel
theorem dX11_store_6 : decode cX11_store 6 = .ok (.ifCond .eq 14, 3) := by decide +kernel
theorem dX11_store_9 : decode cX11_store 9 = .ok (.iload_n 2, 1) := by decide +kernel
theorem dX11_store_10 : decode cX11_store 10 = .ok (.iconst 0, 1) := by decide +kernel
theorem dX11_store_11 : decode cX11_store 11 = .ok (.sipush 9999, 3) := by decide +kernel
theorem dX11_store_14 : decode cX11_store 14 = .ok (.invokestatic 64, 3) := by decide +kernel
theorem dX11_store_17 : decode cX11_store 17 = .ok (.ifCond .ne 10, 3) := by decide +kernel
theorem dX11_store_20 : decode cX11_store 20 = .ok (.aload_n 0, 1) := by decide +kernel
theorem dX11_store_21 : decode cX11_store 21 = .ok (.bipush (-2), 2) := by decide +kernel
theorem dX11_store_23 : decode cX11_store 23 = .ok (.invokevirtual 68, 3) := by decide +kernel
theorem dX11_store_26 : decode cX11_store 26 = .ok (.ireturn, 1) := by decide +kernel
theorem dX11_store_27 : decode cX11_store 27 = .ok (.aload_n 0, 1) := by decide +kernel
theorem dX11_store_28 : decode cX11_store 28 = .ok (.getfield 40, 3) := by decide +kernel
theorem dX11_store_31 : decode cX11_store 31 = .ok (.getfield 72, 3) := by decide +kernel
theorem dX11_store_34 : decode cX11_store 34 = .ok (.iload_n 1, 1) := by decide +kernel
theorem dX11_store_35 : decode cX11_store 35 = .ok (.invokevirtual 86, 3) := by decide +kernel
theorem dX11_store_38 : decode cX11_store 38 = .ok (.istore_n 3, 1) := by decide +kernel
theorem dX11_store_39 : decode cX11_store 39 = .ok (.aload_n 0, 1) := by decide +kernel
theorem dX11_store_40 : decode cX11_store 40 = .ok (.getfield 40, 3) := by decide +kernel
theorem dX11_store_43 : decode cX11_store 43 = .ok (.getfield 72, 3) := by decide +kernel
theorem dX11_store_46 : decode cX11_store 46 = .ok (.iload_n 1, 1) := by decide +kernel
theorem dX11_store_47 : decode cX11_store 47 = .ok (.iload_n 2, 1) := by decide +kernel
theorem dX11_store_48 : decode cX11_store 48 = .ok (.invokevirtual 89, 3) := by decide +kernel
theorem dX11_store_51 : decode cX11_store 51 = .ok (.iload_n 3, 1) := by decide +kernel
theorem dX11_store_52 : decode cX11_store 52 = .ok (.ireturn, 1) := by decide +kernel
theorem dX11_family_0 : decode cX11_family 0 = .ok (.iload_n 1, 1) := by decide +kernel
theorem dX11_family_1 : decode cX11_family 1 = .ok (.iconst 0, 1) := by decide +kernel
theorem dX11_family_2 : decode cX11_family 2 = .ok (.iconst 4, 1) := by decide +kernel
theorem dX11_family_3 : decode cX11_family 3 = .ok (.invokestatic 64, 3) := by decide +kernel
theorem dX11_family_6 : decode cX11_family 6 = .ok (.ifCond .eq 13, 3) := by decide +kernel
theorem dX11_family_9 : decode cX11_family 9 = .ok (.iload_n 2, 1) := by decide +kernel
theorem dX11_family_10 : decode cX11_family 10 = .ok (.iconst 1, 1) := by decide +kernel
theorem dX11_family_11 : decode cX11_family 11 = .ok (.bipush 20, 2) := by decide +kernel
theorem dX11_family_13 : decode cX11_family 13 = .ok (.invokestatic 64, 3) := by decide +kernel
theorem dX11_family_16 : decode cX11_family 16 = .ok (.ifCond .ne 10, 3) := by decide +kernel
theorem dX11_family_19 : decode cX11_family 19 = .ok (.aload_n 0, 1) := by decide +kernel
theorem dX11_family_20 : decode cX11_family 20 = .ok (.bipush (-2), 2) := by decide +kernel
theorem dX11_family_22 : decode cX11_family 22 = .ok (.invokevirtual 68, 3) := by decide +kernel
theorem dX11_family_25 : decode cX11_family 25 = .ok (.ireturn, 1) := by decide +kernel
theorem dX11_family_26 : decode cX11_family 26 = .ok (.iload_n 3, 1) := by decide +kernel
theorem dX11_family_27 : decode cX11_family 27 = .ok (.iconst 0, 1) := by decide +kernel
theorem dX11_family_28 : decode cX11_family 28 = .ok (.bipush 9, 2) := by decide +kernel
theorem dX11_family_30 : decode cX11_family 30 = .ok (.invokestatic 64, 3) := by decide +kernel
theorem dX11_family_33 : decode cX11_family 33 = .ok (.ifCond .ne 10, 3) := by decide +kernel
theorem dX11_family_36 : decode cX11_family 36 = .ok (.aload_n 0, 1) := by decide +kernel
theorem dX11_family_37 : decode cX11_family 37 = .ok (.bipush (-2), 2) := by decide +kernel
theorem dX11_family_39 : decode cX11_family 39 = .ok (.invokevirtual 68, 3) := by decide +kernel
theorem dX11_family_42 : decode cX11_family 42 = .ok (.ireturn, 1) := by decide +kernel
theorem dX11_family_43 : decode cX11_family 43 = .ok (.aload_n 0, 1) := by decide +kernel
theorem dX11_family_44 : decode cX11_family 44 = .ok (.getfield 40, 3) := by decide +kernel
theorem dX11_family_47 : decode cX11_family 47 = .ok (.getfield 72, 3) := by decide +kernel
theorem dX11_family_50 : decode cX11_family 50 = .ok (.getfield 93, 3) := by decide +kernel
theorem dX11_family_53 : decode cX11_family 53 = .ok (.bipush 6, 2) := by decide +kernel
theorem dX11_family_55 : decode cX11_family 55 = .ok (.if_icmp .lt 8, 3) := by decide +kernel
theorem dX11_family_58 : decode cX11_family 58 = .ok (.aload_n 0, 1) := by decide +kernel
theorem dX11_family_59 : decode cX11_family 59 = .ok (.invokevirtual 96, 3) := by decide +kernel
theorem dX11_family_62 : decode cX11_family 62 = .ok (.ireturn, 1) := by decide +kernel
theorem dX11_family_63 : decode cX11_family 63 = .ok (.aload_n 0, 1) := by decide +kernel
theorem dX11_family_64 : decode cX11_family 64 = .ok (.getfield 40, 3) := by decide +kernel
theorem dX11_family_67 : decode cX11_family 67 = .ok (.getfield 72, 3) := by decide +kernel
theorem dX11_family_70 : decode cX11_family 70 = .ok (.iload_n 1, 1) := by decide +kernel
theorem dX11_family_71 : decode cX11_family 71 = .ok (.iload_n 2, 1) := by decide +kernel
theorem dX11_family_72 : decode cX11_family 72 = .ok (.iload_n 3, 1) := by decide +kernel
theorem dX11_family_73 : decode cX11_family 73 = .ok (.invokevirtual 100, 3) := by decide +kernel
theorem dX11_family_76 : decode cX11_family 76 = .ok (.ireturn, 1) := by decide +kernel
theorem dX11_job_0 : decode cX11_job 0 = .ok (.aload_n 0, 1) := by decide +kernel
theorem dX11_job_1 : decode cX11_job 1 = .ok (.iload_n 1, 1) := by decide +kernel
theorem dX11_job_2 : decode cX11_job 2 = .ok (.invokevirtual 104, 3) := by decide +kernel
theorem dX11_job_5 : decode cX11_job 5 = .ok (.ifCond .eq 12, 3) := by decide +kernel
theorem dX11_job_8 : decode cX11_job 8 = .ok (.iload_n 2, 1) := by decide +kernel
theorem dX11_job_9 : decode cX11_job 9 = .ok (.iconst 0, 1) := by decide +kernel
theorem dX11_job_10 : decode cX11_job 10 = .ok (.iconst 4, 1) := by decide +kernel
theorem dX11_job_11 : decode cX11_job 11 = .ok (.invokestatic 64, 3) := by decide +kernel
theorem dX11_job_14 : decode cX11_job 14 = .ok (.ifCond .ne 10, 3) := by decide +kernel
theorem dX11_job_17 : decode cX11_job 17 = .ok (.aload_n 0, 1) := by decide +kernel
theorem dX11_job_18 : decode cX11_job 18 = .ok (.bipush (-2), 2) := by decide +kernel
theorem dX11_job_20 : decode cX11_job 20 = .ok (.invokevirtual 68, 3) := by decide +kernel
theorem dX11_job_23 : decode cX11_job 23 = .ok (.ireturn, 1) := by decide +kernel
theorem dX11_job_24 : decode cX11_job 24 = .ok (.aload_n 0, 1) := by decide +kernel
theorem dX11_job_25 : decode cX11_job 25 = .ok (.getfield 40, 3) := by decide +kernel
theorem dX11_job_28 : decode cX11_job 28 = .ok (.getfield 72, 3) := by decide +kernel
theorem dX11_job_31 : decode cX11_job 31 = .ok (.iload_n 1, 1) := by decide +kernel
theorem dX11_job_32 : decode cX11_job 32 = .ok (.invokevirtual 108, 3) := by decide +kernel
theorem dX11_job_35 : decode cX11_job 35 = .ok (.astore_n 3, 1) := by decide +kernel
theorem dX11_job_36 : decode cX11_job 36 = .ok (.aload_n 3, 1) := by decide +kernel
theorem dX11_job_37 : decode cX11_job 37 = .ok (.getfield 112, 3) := by decide +kernel
theorem dX11_job_40 : decode cX11_job 40 = .ok (.istore 4, 2) := by decide +kernel
theorem dX11_job_42 : decode cX11_job 42 = .ok (.aload_n 3, 1) := by decide +kernel
theorem dX11_job_43 : decode cX11_job 43 = .ok (.iload_n 2, 1) := by decide +kernel
theorem dX11_job_44 : decode cX11_job 44 = .ok (.putfield 112, 3) := by decide +kernel
theorem dX11_job_47 : decode cX11_job 47 = .ok (.iload 4, 2) := by decide +kernel
theorem dX11_job_49 : decode cX11_job 49 = .ok (.ireturn, 1) := by decide +kernel
theorem dX11_type_0 : decode cX11_type 0 = .ok (.iload_n 1, 1) := by decide +kernel
theorem dX11_type_1 : decode cX11_type 1 = .ok (.iconst 0, 1) := by decide +kernel
theorem dX11_type_2 : decode cX11_type 2 = .ok (.bipush 127, 2) := by decide +kernel
theorem dX11_type_4 : decode cX11_type 4 = .ok (.invokestatic 64, 3) := by decide +kernel
theorem dX11_type_7 : decode cX11_type 7 = .ok (.ifCond .ne 10, 3) := by decide +kernel
theorem dX11_type_10 : decode cX11_type 10 = .ok (.aload_n 0, 1) := by decide +kernel
theorem dX11_type_11 : decode cX11_type 11 = .ok (.bipush (-2), 2) := by decide +kernel
theorem dX11_type_13 : decode cX11_type 13 = .ok (.invokevirtual 68, 3) := by decide +kernel
theorem dX11_type_16 : decode cX11_type 16 = .ok (.ireturn, 1) := by decide +kernel
theorem dX11_type_17 : decode cX11_type 17 = .ok (.aload_n 0, 1) := by decide +kernel
theorem dX11_type_18 : decode cX11_type 18 = .ok (.getfield 10, 3) := by decide +kernel
theorem dX11_type_21 : decode cX11_type 21 = .ok (.getfield 117, 3) := by decide +kernel
theorem dX11_type_24 : decode cX11_type 24 = .ok (.sipush 150, 3) := by decide +kernel
theorem dX11_type_27 : decode cX11_type 27 = .ok (.if_icmp .lt 8, 3) := by decide +kernel
theorem dX11_type_30 : decode cX11_type 30 = .ok (.aload_n 0, 1) := by decide +kernel
theorem dX11_type_31 : decode cX11_type 31 = .ok (.invokevirtual 96, 3) := by decide +kernel
theorem dX11_type_34 : decode cX11_type 34 = .ok (.ireturn, 1) := by decide +kernel
theorem dX11_type_35 : decode cX11_type 35 = .ok (.aload_n 0, 1) := by decide +kernel
theorem dX11_type_36 : decode cX11_type 36 = .ok (.getfield 10, 3) := by decide +kernel
theorem dX11_type_39 : decode cX11_type 39 = .ok (.iload_n 1, 1) := by decide +kernel
theorem dX11_type_40 : decode cX11_type 40 = .ok (.invokevirtual 118, 3) := by decide +kernel
theorem dX11_type_43 : decode cX11_type 43 = .ok (.ireturn, 1) := by decide +kernel
theorem dX11_clear_0 : decode cX11_clear 0 = .ok (.aload_n 0, 1) := by decide +kernel
theorem dX11_clear_1 : decode cX11_clear 1 = .ok (.getfield 10, 3) := by decide +kernel
theorem dX11_clear_4 : decode cX11_clear 4 = .ok (.getfield 117, 3) := by decide +kernel
theorem dX11_clear_7 : decode cX11_clear 7 = .ok (.istore_n 1, 1) := by decide +kernel
theorem dX11_clear_8 : decode cX11_clear 8 = .ok (.aload_n 0, 1) := by decide +kernel
theorem dX11_clear_9 : decode cX11_clear 9 = .ok (.getfield 10, 3) := by decide +kernel
theorem dX11_clear_12 : decode cX11_clear 12 = .ok (.iconst 0, 1) := by decide +kernel
theorem dX11_clear_13 : decode cX11_clear 13 = .ok (.putfield 117, 3) := by decide +kernel
theorem dX11_clear_16 : decode cX11_clear 16 = .ok (.iload_n 1, 1) := by decide +kernel
theorem dX11_clear_17 : decode cX11_clear 17 = .ok (.ireturn, 1) := by decide +kernel
theorem dX11_read_0 : decode cX11_read 0 = .ok (.aload_n 0, 1) := by decide +kernel
theorem dX11_read_1 : decode cX11_read 1 = .ok (.getfield 10, 3) := by decide +kernel
theorem dX11_read_4 : decode cX11_read 4 = .ok (.aload_n 0, 1) := by decide +kernel
theorem dX11_read_5 : decode cX11_read 5 = .ok (.getfield 44, 3) := by decide +kernel
theorem dX11_read_8 : decode cX11_read 8 = .ok (.invokevirtual 121, 3) := by decide +kernel
theorem dX11_read_11 : decode cX11_read 11 = .ok (.istore_n 1, 1) := by decide +kernel
theorem dX11_read_12 : decode cX11_read 12 = .ok (.iload_n 1, 1) := by decide +kernel
theorem dX11_read_13 : decode cX11_read 13 = .ok (.ifCond .lt 14, 3) := by decide +kernel
theorem dX11_read_16 : decode cX11_read 16 = .ok (.aload_n 0, 1) := by decide +kernel
theorem dX11_read_17 : decode cX11_read 17 = .ok (.getfield 40, 3) := by decide +kernel
theorem dX11_read_20 : decode cX11_read 20 = .ok (.aload_n 0, 1) := by decide +kernel
theorem dX11_read_21 : decode cX11_read 21 = .ok (.getfield 44, 3) := by decide +kernel
theorem dX11_read_24 : decode cX11_read 24 = .ok (.invokevirtual 125, 3) := by decide +kernel
theorem dX11_read_27 : decode cX11_read 27 = .ok (.iload_n 1, 1) := by decide +kernel
theorem dX11_read_28 : decode cX11_read 28 = .ok (.ireturn, 1) := by decide +kernel
theorem dX11_pass_0 : decode cX11_pass 0 = .ok (.iload_n 1, 1) := by decide +kernel
theorem dX11_pass_1 : decode cX11_pass 1 = .ok (.iconst 1, 1) := by decide +kernel
theorem dX11_pass_2 : decode cX11_pass 2 = .ok (.bipush 20, 2) := by decide +kernel
theorem dX11_pass_4 : decode cX11_pass 4 = .ok (.invokestatic 64, 3) := by decide +kernel
theorem dX11_pass_7 : decode cX11_pass 7 = .ok (.ifCond .ne 10, 3) := by decide +kernel
theorem dX11_pass_10 : decode cX11_pass 10 = .ok (.aload_n 0, 1) := by decide +kernel
theorem dX11_pass_11 : decode cX11_pass 11 = .ok (.bipush (-2), 2) := by decide +kernel
theorem dX11_pass_13 : decode cX11_pass 13 = .ok (.invokevirtual 68, 3) := by decide +kernel
theorem dX11_pass_16 : decode cX11_pass 16 = .ok (.ireturn, 1) := by decide +kernel
theorem dX11_pass_17 : decode cX11_pass 17 = .ok (.iconst 0, 1) := by decide +kernel
theorem dX11_pass_18 : decode cX11_pass 18 = .ok (.istore_n 2, 1) := by decide +kernel
theorem dX11_pass_19 : decode cX11_pass 19 = .ok (.iconst 0, 1) := by decide +kernel
theorem dX11_pass_20 : decode cX11_pass 20 = .ok (.istore_n 3, 1) := by decide +kernel
theorem dX11_pass_21 : decode cX11_pass 21 = .ok (.iload_n 3, 1) := by decide +kernel
theorem dX11_pass_22 : decode cX11_pass 22 = .ok (.iload_n 1, 1) := by decide +kernel
theorem dX11_pass_23 : decode cX11_pass 23 = .ok (.if_icmp .ge 19, 3) := by decide +kernel
theorem dX11_pass_26 : decode cX11_pass 26 = .ok (.iload_n 2, 1) := by decide +kernel
theorem dX11_pass_27 : decode cX11_pass 27 = .ok (.aload_n 0, 1) := by decide +kernel
theorem dX11_pass_28 : decode cX11_pass 28 = .ok (.getfield 40, 3) := by decide +kernel
theorem dX11_pass_31 : decode cX11_pass 31 = .ok (.invokevirtual 129, 3) := by decide +kernel
theorem dX11_pass_34 : decode cX11_pass 34 = .ok (.iadd, 1) := by decide +kernel
theorem dX11_pass_35 : decode cX11_pass 35 = .ok (.istore_n 2, 1) := by decide +kernel
theorem dX11_pass_36 : decode cX11_pass 36 = .ok (.iinc 3 1, 3) := by decide +kernel
theorem dX11_pass_39 : decode cX11_pass 39 = .ok (.goto (-18), 3) := by decide +kernel
theorem dX11_pass_42 : decode cX11_pass 42 = .ok (.iload_n 2, 1) := by decide +kernel
theorem dX11_pass_43 : decode cX11_pass 43 = .ok (.ireturn, 1) := by decide +kernel
theorem dX11_undo_0 : decode cX11_undo 0 = .ok (.aload_n 0, 1) := by decide +kernel
theorem dX11_undo_1 : decode cX11_undo 1 = .ok (.getfield 40, 3) := by decide +kernel
theorem dX11_undo_4 : decode cX11_undo 4 = .ok (.invokevirtual 132, 3) := by decide +kernel
theorem dX11_undo_7 : decode cX11_undo 7 = .ok (.ifCond .eq 7, 3) := by decide +kernel
theorem dX11_undo_10 : decode cX11_undo 10 = .ok (.iconst 1, 1) := by decide +kernel
theorem dX11_undo_11 : decode cX11_undo 11 = .ok (.goto 7, 3) := by decide +kernel
theorem dX11_undo_14 : decode cX11_undo 14 = .ok (.aload_n 0, 1) := by decide +kernel
theorem dX11_undo_15 : decode cX11_undo 15 = .ok (.invokevirtual 136, 3) := by decide +kernel
theorem dX11_undo_18 : decode cX11_undo 18 = .ok (.ireturn, 1) := by decide +kernel
theorem dX11_about_0 : decode cX11_about 0 = .ok (.aload_n 0, 1) := by decide +kernel
theorem dX11_about_1 : decode cX11_about 1 = .ok (.iload_n 1, 1) := by decide +kernel
theorem dX11_about_2 : decode cX11_about 2 = .ok (.invokevirtual 104, 3) := by decide +kernel
theorem dX11_about_5 : decode cX11_about 5 = .ok (.ifCond .ne 10, 3) := by decide +kernel
theorem dX11_about_8 : decode cX11_about 8 = .ok (.aload_n 0, 1) := by decide +kernel
theorem dX11_about_9 : decode cX11_about 9 = .ok (.bipush (-2), 2) := by decide +kernel
theorem dX11_about_11 : decode cX11_about 11 = .ok (.invokevirtual 68, 3) := by decide +kernel
theorem dX11_about_14 : decode cX11_about 14 = .ok (.ireturn, 1) := by decide +kernel
theorem dX11_about_15 : decode cX11_about 15 = .ok (.aload_n 0, 1) := by decide +kernel
theorem dX11_about_16 : decode cX11_about 16 = .ok (.getfield 40, 3) := by decide +kernel
theorem dX11_about_19 : decode cX11_about 19 = .ok (.getfield 72, 3) := by decide +kernel
theorem dX11_about_22 : decode cX11_about 22 = .ok (.iload_n 1, 1) := by decide +kernel
theorem dX11_about_23 : decode cX11_about 23 = .ok (.invokevirtual 108, 3) := by decide +kernel
theorem dX11_about_26 : decode cX11_about 26 = .ok (.astore_n 3, 1) := by decide +kernel
theorem dX11_about_27 : decode cX11_about 27 = .ok (.iload_n 2, 1) := by decide +kernel
theorem dX11_about_28 : decode cX11_about 28 = .ok (.tableswitch 52 0 3 #[32, 37, 42, 47], 32) := by decide +kernel
theorem dX11_about_60 : decode cX11_about 60 = .ok (.aload_n 3, 1) := by decide +kernel
theorem dX11_about_61 : decode cX11_about 61 = .ok (.getfield 139, 3) := by decide +kernel
theorem dX11_about_64 : decode cX11_about 64 = .ok (.ireturn, 1) := by decide +kernel
theorem dX11_about_65 : decode cX11_about 65 = .ok (.aload_n 3, 1) := by decide +kernel
theorem dX11_about_66 : decode cX11_about 66 = .ok (.getfield 142, 3) := by decide +kernel
theorem dX11_about_69 : decode cX11_about 69 = .ok (.ireturn, 1) := by decide +kernel
theorem dX11_about_70 : decode cX11_about 70 = .ok (.aload_n 3, 1) := by decide +kernel
theorem dX11_about_71 : decode cX11_about 71 = .ok (.getfield 145, 3) := by decide +kernel
theorem dX11_about_74 : decode cX11_about 74 = .ok (.ireturn, 1) := by decide +kernel
theorem dX11_about_75 : decode cX11_about 75 = .ok (.aload_n 3, 1) := by decide +kernel
theorem dX11_about_76 : decode cX11_about 76 = .ok (.getfield 112, 3) := by decide +kernel
theorem dX11_about_79 : decode cX11_about 79 = .ok (.ireturn, 1) := by decide +kernel
theorem dX11_about_80 : decode cX11_about 80 = .ok (.aload_n 0, 1) := by decide +kernel
theorem dX11_about_81 : decode cX11_about 81 = .ok (.bipush (-2), 2) := by decide +kernel
theorem dX11_about_83 : decode cX11_about 83 = .ok (.invokevirtual 68, 3) := by decide +kernel
theorem dX11_about_86 : decode cX11_about 86 = .ok (.ireturn, 1) := by decide +kernel
theorem dX11_eats_0 : decode cX11_eats 0 = .ok (.aload_n 0, 1) := by decide +kernel
theorem dX11_eats_1 : decode cX11_eats 1 = .ok (.iload_n 1, 1) := by decide +kernel
theorem dX11_eats_2 : decode cX11_eats 2 = .ok (.invokevirtual 104, 3) := by decide +kernel
theorem dX11_eats_5 : decode cX11_eats 5 = .ok (.ifCond .eq 14, 3) := by decide +kernel
theorem dX11_eats_8 : decode cX11_eats 8 = .ok (.iload_n 2, 1) := by decide +kernel
theorem dX11_eats_9 : decode cX11_eats 9 = .ok (.iconst 0, 1) := by decide +kernel
theorem dX11_eats_10 : decode cX11_eats 10 = .ok (.sipush 9999, 3) := by decide +kernel
theorem dX11_eats_13 : decode cX11_eats 13 = .ok (.invokestatic 64, 3) := by decide +kernel
theorem dX11_eats_16 : decode cX11_eats 16 = .ok (.ifCond .ne 10, 3) := by decide +kernel
theorem dX11_eats_19 : decode cX11_eats 19 = .ok (.aload_n 0, 1) := by decide +kernel
theorem dX11_eats_20 : decode cX11_eats 20 = .ok (.bipush (-2), 2) := by decide +kernel
theorem dX11_eats_22 : decode cX11_eats 22 = .ok (.invokevirtual 68, 3) := by decide +kernel
theorem dX11_eats_25 : decode cX11_eats 25 = .ok (.ireturn, 1) := by decide +kernel
theorem dX11_eats_26 : decode cX11_eats 26 = .ok (.aload_n 0, 1) := by decide +kernel
theorem dX11_eats_27 : decode cX11_eats 27 = .ok (.getfield 40, 3) := by decide +kernel
theorem dX11_eats_30 : decode cX11_eats 30 = .ok (.getfield 72, 3) := by decide +kernel
theorem dX11_eats_33 : decode cX11_eats 33 = .ok (.iload_n 1, 1) := by decide +kernel
theorem dX11_eats_34 : decode cX11_eats 34 = .ok (.invokevirtual 108, 3) := by decide +kernel
theorem dX11_eats_37 : decode cX11_eats 37 = .ok (.aload_n 0, 1) := by decide +kernel
theorem dX11_eats_38 : decode cX11_eats 38 = .ok (.getfield 40, 3) := by decide +kernel
theorem dX11_eats_41 : decode cX11_eats 41 = .ok (.getfield 72, 3) := by decide +kernel
theorem dX11_eats_44 : decode cX11_eats 44 = .ok (.iload_n 2, 1) := by decide +kernel
theorem dX11_eats_45 : decode cX11_eats 45 = .ok (.invokevirtual 148, 3) := by decide +kernel
theorem dX11_eats_48 : decode cX11_eats 48 = .ok (.invokevirtual 151, 3) := by decide +kernel
theorem dX11_eats_51 : decode cX11_eats 51 = .ok (.ireturn, 1) := by decide +kernel
theorem dX11_fields_0 : decode cX11_fields 0 = .ok (.aload_n 0, 1) := by decide +kernel
theorem dX11_fields_1 : decode cX11_fields 1 = .ok (.getfield 40, 3) := by decide +kernel
theorem dX11_fields_4 : decode cX11_fields 4 = .ok (.getfield 72, 3) := by decide +kernel
theorem dX11_fields_7 : decode cX11_fields 7 = .ok (.invokevirtual 155, 3) := by decide +kernel
theorem dX11_fields_10 : decode cX11_fields 10 = .ok (.ireturn, 1) := by decide +kernel
theorem dX11_plan_0 : decode cX11_plan 0 = .ok (.iload_n 1, 1) := by decide +kernel
theorem dX11_plan_1 : decode cX11_plan 1 = .ok (.iconst 0, 1) := by decide +kernel
theorem dX11_plan_2 : decode cX11_plan 2 = .ok (.iconst 5, 1) := by decide +kernel
theorem dX11_plan_3 : decode cX11_plan 3 = .ok (.invokestatic 64, 3) := by decide +kernel
theorem dX11_plan_6 : decode cX11_plan 6 = .ok (.ifCond .eq 8, 3) := by decide +kernel
theorem dX11_plan_9 : decode cX11_plan 9 = .ok (.iload_n 2, 1) := by decide +kernel
theorem dX11_plan_10 : decode cX11_plan 10 = .ok (.iconst (-1), 1) := by decide +kernel
theorem dX11_plan_11 : decode cX11_plan 11 = .ok (.if_icmp .ge 10, 3) := by decide +kernel
theorem dX11_plan_14 : decode cX11_plan 14 = .ok (.aload_n 0, 1) := by decide +kernel
theorem dX11_plan_15 : decode cX11_plan 15 = .ok (.bipush (-10), 2) := by decide +kernel
theorem dX11_plan_17 : decode cX11_plan 17 = .ok (.invokevirtual 68, 3) := by decide +kernel
theorem dX11_plan_20 : decode cX11_plan 20 = .ok (.ireturn, 1) := by decide +kernel
theorem dX11_plan_21 : decode cX11_plan 21 = .ok (.aload_n 0, 1) := by decide +kernel
theorem dX11_plan_22 : decode cX11_plan 22 = .ok (.getfield 56, 3) := by decide +kernel
theorem dX11_plan_25 : decode cX11_plan 25 = .ok (.aload_n 0, 1) := by decide +kernel
theorem dX11_plan_26 : decode cX11_plan 26 = .ok (.getfield 40, 3) := by decide +kernel
theorem dX11_plan_29 : decode cX11_plan 29 = .ok (.getfield 72, 3) := by decide +kernel
theorem dX11_plan_32 : decode cX11_plan 32 = .ok (.iload_n 1, 1) := by decide +kernel
theorem dX11_plan_33 : decode cX11_plan 33 = .ok (.invokevirtual 158, 3) := by decide +kernel
theorem dX11_plan_36 : decode cX11_plan 36 = .ok (.istore_n 3, 1) := by decide +kernel
theorem dX11_plan_37 : decode cX11_plan 37 = .ok (.iload_n 3, 1) := by decide +kernel
theorem dX11_plan_38 : decode cX11_plan 38 = .ok (.iconst (-1), 1) := by decide +kernel
theorem dX11_plan_39 : decode cX11_plan 39 = .ok (.if_icmp .eq 8, 3) := by decide +kernel
theorem dX11_plan_42 : decode cX11_plan 42 = .ok (.iload_n 2, 1) := by decide +kernel
theorem dX11_plan_43 : decode cX11_plan 43 = .ok (.iconst (-1), 1) := by decide +kernel
theorem dX11_plan_44 : decode cX11_plan 44 = .ok (.if_icmp .ne 5, 3) := by decide +kernel
theorem dX11_plan_47 : decode cX11_plan 47 = .ok (.iload_n 3, 1) := by decide +kernel
theorem dX11_plan_48 : decode cX11_plan 48 = .ok (.ireturn, 1) := by decide +kernel
theorem dX11_plan_49 : decode cX11_plan 49 = .ok (.iload_n 2, 1) := by decide +kernel
theorem dX11_plan_50 : decode cX11_plan 50 = .ok (.iload_n 1, 1) := by decide +kernel
theorem dX11_plan_51 : decode cX11_plan 51 = .ok (.if_icmp .ge 14, 3) := by decide +kernel
theorem dX11_plan_54 : decode cX11_plan 54 = .ok (.aload_n 0, 1) := by decide +kernel
theorem dX11_plan_55 : decode cX11_plan 55 = .ok (.getfield 56, 3) := by decide +kernel
theorem dX11_plan_58 : decode cX11_plan 58 = .ok (.iload_n 2, 1) := by decide +kernel
theorem dX11_plan_59 : decode cX11_plan 59 = .ok (.invokevirtual 162, 3) := by decide +kernel
theorem dX11_plan_62 : decode cX11_plan 62 = .ok (.goto 5, 3) := by decide +kernel
theorem dX11_plan_65 : decode cX11_plan 65 = .ok (.bipush (-5), 2) := by decide +kernel
theorem dX11_plan_67 : decode cX11_plan 67 = .ok (.ireturn, 1) := by decide +kernel
theorem dX11_want_0 : decode cX11_want 0 = .ok (.iload_n 1, 1) := by decide +kernel
theorem dX11_want_1 : decode cX11_want 1 = .ok (.iconst 0, 1) := by decide +kernel
theorem dX11_want_2 : decode cX11_want 2 = .ok (.sipush 200, 3) := by decide +kernel
theorem dX11_want_5 : decode cX11_want 5 = .ok (.invokestatic 64, 3) := by decide +kernel
theorem dX11_want_8 : decode cX11_want 8 = .ok (.ifCond .ne 10, 3) := by decide +kernel
theorem dX11_want_11 : decode cX11_want 11 = .ok (.aload_n 0, 1) := by decide +kernel
theorem dX11_want_12 : decode cX11_want 12 = .ok (.bipush (-2), 2) := by decide +kernel
theorem dX11_want_14 : decode cX11_want 14 = .ok (.invokevirtual 68, 3) := by decide +kernel
theorem dX11_want_17 : decode cX11_want 17 = .ok (.ireturn, 1) := by decide +kernel
theorem dX11_want_18 : decode cX11_want 18 = .ok (.aload_n 0, 1) := by decide +kernel
theorem dX11_want_19 : decode cX11_want 19 = .ok (.getfield 56, 3) := by decide +kernel
theorem dX11_want_22 : decode cX11_want 22 = .ok (.aload_n 0, 1) := by decide +kernel
theorem dX11_want_23 : decode cX11_want 23 = .ok (.getfield 40, 3) := by decide +kernel
theorem dX11_want_26 : decode cX11_want 26 = .ok (.getfield 72, 3) := by decide +kernel
theorem dX11_want_29 : decode cX11_want 29 = .ok (.iload_n 1, 1) := by decide +kernel
theorem dX11_want_30 : decode cX11_want 30 = .ok (.aload_n 0, 1) := by decide +kernel
theorem dX11_want_31 : decode cX11_want 31 = .ok (.getfield 40, 3) := by decide +kernel
theorem dX11_want_34 : decode cX11_want 34 = .ok (.getfield 72, 3) := by decide +kernel
theorem dX11_want_37 : decode cX11_want 37 = .ok (.getfield 165, 3) := by decide +kernel
theorem dX11_want_40 : decode cX11_want 40 = .ok (.invokevirtual 168, 3) := by decide +kernel
theorem dX11_want_43 : decode cX11_want 43 = .ok (.ireturn, 1) := by decide +kernel
theorem dX11_held_0 : decode cX11_held 0 = .ok (.iload_n 1, 1) := by decide +kernel
theorem dX11_held_1 : decode cX11_held 1 = .ok (.iconst 0, 1) := by decide +kernel
theorem dX11_held_2 : decode cX11_held 2 = .ok (.sipush 200, 3) := by decide +kernel
theorem dX11_held_5 : decode cX11_held 5 = .ok (.invokestatic 64, 3) := by decide +kernel
theorem dX11_held_8 : decode cX11_held 8 = .ok (.ifCond .ne 10, 3) := by decide +kernel
theorem dX11_held_11 : decode cX11_held 11 = .ok (.aload_n 0, 1) := by decide +kernel
theorem dX11_held_12 : decode cX11_held 12 = .ok (.bipush (-10), 2) := by decide +kernel
theorem dX11_held_14 : decode cX11_held 14 = .ok (.invokevirtual 68, 3) := by decide +kernel
theorem dX11_held_17 : decode cX11_held 17 = .ok (.ireturn, 1) := by decide +kernel
theorem dX11_held_18 : decode cX11_held 18 = .ok (.aload_n 0, 1) := by decide +kernel
theorem dX11_held_19 : decode cX11_held 19 = .ok (.getfield 56, 3) := by decide +kernel
theorem dX11_held_22 : decode cX11_held 22 = .ok (.aload_n 0, 1) := by decide +kernel
theorem dX11_held_23 : decode cX11_held 23 = .ok (.getfield 40, 3) := by decide +kernel
theorem dX11_held_26 : decode cX11_held 26 = .ok (.getfield 72, 3) := by decide +kernel
theorem dX11_held_29 : decode cX11_held 29 = .ok (.iload_n 1, 1) := by decide +kernel
theorem dX11_held_30 : decode cX11_held 30 = .ok (.invokevirtual 172, 3) := by decide +kernel
theorem dX11_held_33 : decode cX11_held 33 = .ok (.ireturn, 1) := by decide +kernel
theorem dX11_chance_0 : decode cX11_chance 0 = .ok (.iload_n 1, 1) := by decide +kernel
theorem dX11_chance_1 : decode cX11_chance 1 = .ok (.iconst 0, 1) := by decide +kernel
theorem dX11_chance_2 : decode cX11_chance 2 = .ok (.bipush 60, 2) := by decide +kernel
theorem dX11_chance_4 : decode cX11_chance 4 = .ok (.invokestatic 64, 3) := by decide +kernel
theorem dX11_chance_7 : decode cX11_chance 7 = .ok (.ifCond .eq 13, 3) := by decide +kernel
theorem dX11_chance_10 : decode cX11_chance 10 = .ok (.iload_n 2, 1) := by decide +kernel
theorem dX11_chance_11 : decode cX11_chance 11 = .ok (.iconst 0, 1) := by decide +kernel
theorem dX11_chance_12 : decode cX11_chance 12 = .ok (.bipush 10, 2) := by decide +kernel
theorem dX11_chance_14 : decode cX11_chance 14 = .ok (.invokestatic 64, 3) := by decide +kernel
theorem dX11_chance_17 : decode cX11_chance 17 = .ok (.ifCond .ne 10, 3) := by decide +kernel
theorem dX11_chance_20 : decode cX11_chance 20 = .ok (.aload_n 0, 1) := by decide +kernel
theorem dX11_chance_21 : decode cX11_chance 21 = .ok (.bipush (-2), 2) := by decide +kernel
theorem dX11_chance_23 : decode cX11_chance 23 = .ok (.invokevirtual 68, 3) := by decide +kernel
theorem dX11_chance_26 : decode cX11_chance 26 = .ok (.ireturn, 1) := by decide +kernel
theorem dX11_chance_27 : decode cX11_chance 27 = .ok (.aload_n 0, 1) := by decide +kernel
theorem dX11_chance_28 : decode cX11_chance 28 = .ok (.getfield 40, 3) := by decide +kernel
theorem dX11_chance_31 : decode cX11_chance 31 = .ok (.getfield 72, 3) := by decide +kernel
theorem dX11_chance_34 : decode cX11_chance 34 = .ok (.iload_n 1, 1) := by decide +kernel
theorem dX11_chance_35 : decode cX11_chance 35 = .ok (.invokevirtual 175, 3) := by decide +kernel
theorem dX11_chance_38 : decode cX11_chance 38 = .ok (.istore_n 3, 1) := by decide +kernel
theorem dX11_chance_39 : decode cX11_chance 39 = .ok (.iload_n 3, 1) := by decide +kernel
theorem dX11_chance_40 : decode cX11_chance 40 = .ok (.bipush 8, 2) := by decide +kernel
theorem dX11_chance_42 : decode cX11_chance 42 = .ok (.if_icmp .le 8, 3) := by decide +kernel
theorem dX11_chance_45 : decode cX11_chance 45 = .ok (.aload_n 0, 1) := by decide +kernel
theorem dX11_chance_46 : decode cX11_chance 46 = .ok (.invokevirtual 136, 3) := by decide +kernel
theorem dX11_chance_49 : decode cX11_chance 49 = .ok (.ireturn, 1) := by decide +kernel
theorem dX11_chance_50 : decode cX11_chance 50 = .ok (.lconst 1, 1) := by decide +kernel
theorem dX11_chance_51 : decode cX11_chance 51 = .ok (.lstore 4, 2) := by decide +kernel
theorem dX11_chance_53 : decode cX11_chance 53 = .ok (.iconst 0, 1) := by decide +kernel
theorem dX11_chance_54 : decode cX11_chance 54 = .ok (.istore 6, 2) := by decide +kernel
theorem dX11_chance_56 : decode cX11_chance 56 = .ok (.iload 6, 2) := by decide +kernel
theorem dX11_chance_58 : decode cX11_chance 58 = .ok (.iload_n 3, 1) := by decide +kernel
theorem dX11_chance_59 : decode cX11_chance 59 = .ok (.if_icmp .ge 17, 3) := by decide +kernel
theorem dX11_chance_62 : decode cX11_chance 62 = .ok (.lload 4, 2) := by decide +kernel
theorem dX11_chance_64 : decode cX11_chance 64 = .ok (.ldc2_w 178, 3) := by decide +kernel
theorem dX11_chance_67 : decode cX11_chance 67 = .ok (.lmul, 1) := by decide +kernel
theorem dX11_chance_68 : decode cX11_chance 68 = .ok (.lstore 4, 2) := by decide +kernel
theorem dX11_chance_70 : decode cX11_chance 70 = .ok (.iinc 6 1, 3) := by decide +kernel
theorem dX11_chance_73 : decode cX11_chance 73 = .ok (.goto (-17), 3) := by decide +kernel
theorem dX11_chance_76 : decode cX11_chance 76 = .ok (.aload_n 0, 1) := by decide +kernel
theorem dX11_chance_77 : decode cX11_chance 77 = .ok (.aload_n 0, 1) := by decide +kernel
theorem dX11_chance_78 : decode cX11_chance 78 = .ok (.getfield 56, 3) := by decide +kernel
theorem dX11_chance_81 : decode cX11_chance 81 = .ok (.aload_n 0, 1) := by decide +kernel
theorem dX11_chance_82 : decode cX11_chance 82 = .ok (.getfield 40, 3) := by decide +kernel
theorem dX11_chance_85 : decode cX11_chance 85 = .ok (.getfield 72, 3) := by decide +kernel
theorem dX11_chance_88 : decode cX11_chance 88 = .ok (.iload_n 1, 1) := by decide +kernel
theorem dX11_chance_89 : decode cX11_chance 89 = .ok (.iload_n 2, 1) := by decide +kernel
theorem dX11_chance_90 : decode cX11_chance 90 = .ok (.invokevirtual 180, 3) := by decide +kernel
theorem dX11_chance_93 : decode cX11_chance 93 = .ok (.lload 4, 2) := by decide +kernel
theorem dX11_chance_95 : decode cX11_chance 95 = .ok (.invokevirtual 184, 3) := by decide +kernel
theorem dX11_chance_98 : decode cX11_chance 98 = .ok (.iconst 1, 1) := by decide +kernel
theorem dX11_chance_99 : decode cX11_chance 99 = .ok (.ireturn, 1) := by decide +kernel
theorem dX11_teachers_0 : decode cX11_teachers 0 = .ok (.iload_n 1, 1) := by decide +kernel
theorem dX11_teachers_1 : decode cX11_teachers 1 = .ok (.iconst 0, 1) := by decide +kernel
theorem dX11_teachers_2 : decode cX11_teachers 2 = .ok (.bipush 60, 2) := by decide +kernel
theorem dX11_teachers_4 : decode cX11_teachers 4 = .ok (.invokestatic 64, 3) := by decide +kernel
theorem dX11_teachers_7 : decode cX11_teachers 7 = .ok (.ifCond .ne 10, 3) := by decide +kernel
theorem dX11_teachers_10 : decode cX11_teachers 10 = .ok (.aload_n 0, 1) := by decide +kernel
theorem dX11_teachers_11 : decode cX11_teachers 11 = .ok (.bipush (-2), 2) := by decide +kernel
theorem dX11_teachers_13 : decode cX11_teachers 13 = .ok (.invokevirtual 68, 3) := by decide +kernel
theorem dX11_teachers_16 : decode cX11_teachers 16 = .ok (.ireturn, 1) := by decide +kernel
theorem dX11_teachers_17 : decode cX11_teachers 17 = .ok (.aload_n 0, 1) := by decide +kernel
theorem dX11_teachers_18 : decode cX11_teachers 18 = .ok (.getfield 56, 3) := by decide +kernel
theorem dX11_teachers_21 : decode cX11_teachers 21 = .ok (.aload_n 0, 1) := by decide +kernel
theorem dX11_teachers_22 : decode cX11_teachers 22 = .ok (.getfield 40, 3) := by decide +kernel
theorem dX11_teachers_25 : decode cX11_teachers 25 = .ok (.getfield 72, 3) := by decide +kernel
theorem dX11_teachers_28 : decode cX11_teachers 28 = .ok (.iload_n 1, 1) := by decide +kernel
theorem dX11_teachers_29 : decode cX11_teachers 29 = .ok (.invokevirtual 188, 3) := by decide +kernel
theorem dX11_teachers_32 : decode cX11_teachers 32 = .ok (.ireturn, 1) := by decide +kernel
theorem dX11_debt_0 : decode cX11_debt 0 = .ok (.aload_n 0, 1) := by decide +kernel
theorem dX11_debt_1 : decode cX11_debt 1 = .ok (.iload_n 1, 1) := by decide +kernel
theorem dX11_debt_2 : decode cX11_debt 2 = .ok (.invokevirtual 104, 3) := by decide +kernel
theorem dX11_debt_5 : decode cX11_debt 5 = .ok (.ifCond .eq 16, 3) := by decide +kernel
theorem dX11_debt_8 : decode cX11_debt 8 = .ok (.aload_n 0, 1) := by decide +kernel
theorem dX11_debt_9 : decode cX11_debt 9 = .ok (.iload_n 2, 1) := by decide +kernel
theorem dX11_debt_10 : decode cX11_debt 10 = .ok (.invokevirtual 104, 3) := by decide +kernel
theorem dX11_debt_13 : decode cX11_debt 13 = .ok (.ifCond .eq 8, 3) := by decide +kernel
theorem dX11_debt_16 : decode cX11_debt 16 = .ok (.iload_n 1, 1) := by decide +kernel
theorem dX11_debt_17 : decode cX11_debt 17 = .ok (.iload_n 2, 1) := by decide +kernel
theorem dX11_debt_18 : decode cX11_debt 18 = .ok (.if_icmp .ne 10, 3) := by decide +kernel
theorem dX11_debt_21 : decode cX11_debt 21 = .ok (.aload_n 0, 1) := by decide +kernel
theorem dX11_debt_22 : decode cX11_debt 22 = .ok (.bipush (-2), 2) := by decide +kernel
theorem dX11_debt_24 : decode cX11_debt 24 = .ok (.invokevirtual 68, 3) := by decide +kernel
theorem dX11_debt_27 : decode cX11_debt 27 = .ok (.ireturn, 1) := by decide +kernel
theorem dX11_debt_28 : decode cX11_debt 28 = .ok (.iload_n 3, 1) := by decide +kernel
theorem dX11_debt_29 : decode cX11_debt 29 = .ok (.iconst 1, 1) := by decide +kernel
theorem dX11_debt_30 : decode cX11_debt 30 = .ok (.sipush 999, 3) := by decide +kernel
theorem dX11_debt_33 : decode cX11_debt 33 = .ok (.invokestatic 64, 3) := by decide +kernel
theorem dX11_debt_36 : decode cX11_debt 36 = .ok (.ifCond .ne 10, 3) := by decide +kernel
theorem dX11_debt_39 : decode cX11_debt 39 = .ok (.aload_n 0, 1) := by decide +kernel
theorem dX11_debt_40 : decode cX11_debt 40 = .ok (.bipush (-2), 2) := by decide +kernel
theorem dX11_debt_42 : decode cX11_debt 42 = .ok (.invokevirtual 68, 3) := by decide +kernel
theorem dX11_debt_45 : decode cX11_debt 45 = .ok (.ireturn, 1) := by decide +kernel
theorem dX11_debt_46 : decode cX11_debt 46 = .ok (.aload_n 0, 1) := by decide +kernel
theorem dX11_debt_47 : decode cX11_debt 47 = .ok (.getfield 40, 3) := by decide +kernel
theorem dX11_debt_50 : decode cX11_debt 50 = .ok (.getfield 191, 3) := by decide +kernel
theorem dX11_debt_53 : decode cX11_debt 53 = .ok (.getfield 195, 3) := by decide +kernel
theorem dX11_debt_56 : decode cX11_debt 56 = .ok (.bipush 8, 2) := by decide +kernel
theorem dX11_debt_58 : decode cX11_debt 58 = .ok (.if_icmp .lt 8, 3) := by decide +kernel
theorem dX11_debt_61 : decode cX11_debt 61 = .ok (.aload_n 0, 1) := by decide +kernel
theorem dX11_debt_62 : decode cX11_debt 62 = .ok (.invokevirtual 96, 3) := by decide +kernel
theorem dX11_debt_65 : decode cX11_debt 65 = .ok (.ireturn, 1) := by decide +kernel
theorem dX11_debt_66 : decode cX11_debt 66 = .ok (.aload_n 0, 1) := by decide +kernel
theorem dX11_debt_67 : decode cX11_debt 67 = .ok (.getfield 40, 3) := by decide +kernel
theorem dX11_debt_70 : decode cX11_debt 70 = .ok (.getfield 191, 3) := by decide +kernel
theorem dX11_debt_73 : decode cX11_debt 73 = .ok (.iload_n 1, 1) := by decide +kernel
theorem dX11_debt_74 : decode cX11_debt 74 = .ok (.iload_n 2, 1) := by decide +kernel
theorem dX11_debt_75 : decode cX11_debt 75 = .ok (.iload_n 3, 1) := by decide +kernel
theorem dX11_debt_76 : decode cX11_debt 76 = .ok (.invokevirtual 200, 3) := by decide +kernel
theorem dX11_debt_79 : decode cX11_debt 79 = .ok (.ireturn, 1) := by decide +kernel
theorem dX11_rate_0 : decode cX11_rate 0 = .ok (.iload_n 1, 1) := by decide +kernel
theorem dX11_rate_1 : decode cX11_rate 1 = .ok (.iconst 0, 1) := by decide +kernel
theorem dX11_rate_2 : decode cX11_rate 2 = .ok (.bipush 50, 2) := by decide +kernel
theorem dX11_rate_4 : decode cX11_rate 4 = .ok (.invokestatic 64, 3) := by decide +kernel
theorem dX11_rate_7 : decode cX11_rate 7 = .ok (.ifCond .ne 10, 3) := by decide +kernel
theorem dX11_rate_10 : decode cX11_rate 10 = .ok (.aload_n 0, 1) := by decide +kernel
theorem dX11_rate_11 : decode cX11_rate 11 = .ok (.bipush (-2), 2) := by decide +kernel
theorem dX11_rate_13 : decode cX11_rate 13 = .ok (.invokevirtual 68, 3) := by decide +kernel
theorem dX11_rate_16 : decode cX11_rate 16 = .ok (.ireturn, 1) := by decide +kernel
theorem dX11_rate_17 : decode cX11_rate 17 = .ok (.aload_n 0, 1) := by decide +kernel
theorem dX11_rate_18 : decode cX11_rate 18 = .ok (.getfield 40, 3) := by decide +kernel
theorem dX11_rate_21 : decode cX11_rate 21 = .ok (.getfield 191, 3) := by decide +kernel
theorem dX11_rate_24 : decode cX11_rate 24 = .ok (.getfield 203, 3) := by decide +kernel
theorem dX11_rate_27 : decode cX11_rate 27 = .ok (.istore_n 2, 1) := by decide +kernel
theorem dX11_rate_28 : decode cX11_rate 28 = .ok (.aload_n 0, 1) := by decide +kernel
theorem dX11_rate_29 : decode cX11_rate 29 = .ok (.getfield 40, 3) := by decide +kernel
theorem dX11_rate_32 : decode cX11_rate 32 = .ok (.getfield 191, 3) := by decide +kernel
theorem dX11_rate_35 : decode cX11_rate 35 = .ok (.iload_n 1, 1) := by decide +kernel
theorem dX11_rate_36 : decode cX11_rate 36 = .ok (.putfield 203, 3) := by decide +kernel
theorem dX11_rate_39 : decode cX11_rate 39 = .ok (.iload_n 2, 1) := by decide +kernel
theorem dX11_rate_40 : decode cX11_rate 40 = .ok (.ireturn, 1) := by decide +kernel
theorem dX11_net_0 : decode cX11_net 0 = .ok (.aload_n 0, 1) := by decide +kernel
theorem dX11_net_1 : decode cX11_net 1 = .ok (.iload_n 1, 1) := by decide +kernel
theorem dX11_net_2 : decode cX11_net 2 = .ok (.invokevirtual 104, 3) := by decide +kernel
theorem dX11_net_5 : decode cX11_net 5 = .ok (.ifCond .ne 10, 3) := by decide +kernel
theorem dX11_net_8 : decode cX11_net 8 = .ok (.aload_n 0, 1) := by decide +kernel
theorem dX11_net_9 : decode cX11_net 9 = .ok (.ldc 206, 2) := by decide +kernel
theorem dX11_net_11 : decode cX11_net 11 = .ok (.invokevirtual 68, 3) := by decide +kernel
theorem dX11_net_14 : decode cX11_net 14 = .ok (.ireturn, 1) := by decide +kernel
theorem dX11_net_15 : decode cX11_net 15 = .ok (.aload_n 0, 1) := by decide +kernel
theorem dX11_net_16 : decode cX11_net 16 = .ok (.getfield 40, 3) := by decide +kernel
theorem dX11_net_19 : decode cX11_net 19 = .ok (.getfield 191, 3) := by decide +kernel
theorem dX11_net_22 : decode cX11_net 22 = .ok (.iload_n 1, 1) := by decide +kernel
theorem dX11_net_23 : decode cX11_net 23 = .ok (.aload_n 0, 1) := by decide +kernel
theorem dX11_net_24 : decode cX11_net 24 = .ok (.getfield 40, 3) := by decide +kernel
theorem dX11_net_27 : decode cX11_net 27 = .ok (.getfield 72, 3) := by decide +kernel
theorem dX11_net_30 : decode cX11_net 30 = .ok (.invokevirtual 207, 3) := by decide +kernel
theorem dX11_net_33 : decode cX11_net 33 = .ok (.invokevirtual 210, 3) := by decide +kernel
theorem dX11_net_36 : decode cX11_net 36 = .ok (.ireturn, 1) := by decide +kernel
theorem dX11_cleared_0 : decode cX11_cleared 0 = .ok (.aload_n 0, 1) := by decide +kernel
theorem dX11_cleared_1 : decode cX11_cleared 1 = .ok (.getfield 56, 3) := by decide +kernel
theorem dX11_cleared_4 : decode cX11_cleared 4 = .ok (.aload_n 0, 1) := by decide +kernel
theorem dX11_cleared_5 : decode cX11_cleared 5 = .ok (.getfield 40, 3) := by decide +kernel
theorem dX11_cleared_8 : decode cX11_cleared 8 = .ok (.invokevirtual 214, 3) := by decide +kernel
theorem dX11_cleared_11 : decode cX11_cleared 11 = .ok (.ireturn, 1) := by decide +kernel
theorem dX11_report_0 : decode cX11_report 0 = .ok (.iload_n 1, 1) := by decide +kernel
theorem dX11_report_1 : decode cX11_report 1 = .ok (.iconst 0, 1) := by decide +kernel
theorem dX11_report_2 : decode cX11_report 2 = .ok (.bipush 99, 2) := by decide +kernel
theorem dX11_report_4 : decode cX11_report 4 = .ok (.invokestatic 64, 3) := by decide +kernel
theorem dX11_report_7 : decode cX11_report 7 = .ok (.ifCond .eq 11, 3) := by decide +kernel
theorem dX11_report_10 : decode cX11_report 10 = .ok (.aload_n 0, 1) := by decide +kernel
theorem dX11_report_11 : decode cX11_report 11 = .ok (.iload_n 2, 1) := by decide +kernel
theorem dX11_report_12 : decode cX11_report 12 = .ok (.invokevirtual 104, 3) := by decide +kernel
theorem dX11_report_15 : decode cX11_report 15 = .ok (.ifCond .ne 10, 3) := by decide +kernel
theorem dX11_report_18 : decode cX11_report 18 = .ok (.aload_n 0, 1) := by decide +kernel
theorem dX11_report_19 : decode cX11_report 19 = .ok (.bipush (-2), 2) := by decide +kernel
theorem dX11_report_21 : decode cX11_report 21 = .ok (.invokevirtual 68, 3) := by decide +kernel
theorem dX11_report_24 : decode cX11_report 24 = .ok (.ireturn, 1) := by decide +kernel
theorem dX11_report_25 : decode cX11_report 25 = .ok (.iload_n 3, 1) := by decide +kernel
theorem dX11_report_26 : decode cX11_report 26 = .ok (.iconst 0, 1) := by decide +kernel
theorem dX11_report_27 : decode cX11_report 27 = .ok (.sipush 9999, 3) := by decide +kernel
theorem dX11_report_30 : decode cX11_report 30 = .ok (.invokestatic 64, 3) := by decide +kernel
theorem dX11_report_33 : decode cX11_report 33 = .ok (.ifCond .ne 10, 3) := by decide +kernel
theorem dX11_report_36 : decode cX11_report 36 = .ok (.aload_n 0, 1) := by decide +kernel
theorem dX11_report_37 : decode cX11_report 37 = .ok (.bipush (-2), 2) := by decide +kernel
theorem dX11_report_39 : decode cX11_report 39 = .ok (.invokevirtual 68, 3) := by decide +kernel
theorem dX11_report_42 : decode cX11_report 42 = .ok (.ireturn, 1) := by decide +kernel
theorem dX11_report_43 : decode cX11_report 43 = .ok (.aload_n 0, 1) := by decide +kernel
theorem dX11_report_44 : decode cX11_report 44 = .ok (.getfield 40, 3) := by decide +kernel
theorem dX11_report_47 : decode cX11_report 47 = .ok (.getfield 191, 3) := by decide +kernel
theorem dX11_report_50 : decode cX11_report 50 = .ok (.getfield 217, 3) := by decide +kernel
theorem dX11_report_53 : decode cX11_report 53 = .ok (.bipush 10, 2) := by decide +kernel
theorem dX11_report_55 : decode cX11_report 55 = .ok (.if_icmp .lt 8, 3) := by decide +kernel
theorem dX11_report_58 : decode cX11_report 58 = .ok (.aload_n 0, 1) := by decide +kernel
theorem dX11_report_59 : decode cX11_report 59 = .ok (.invokevirtual 96, 3) := by decide +kernel
theorem dX11_report_62 : decode cX11_report 62 = .ok (.ireturn, 1) := by decide +kernel
theorem dX11_report_63 : decode cX11_report 63 = .ok (.aload_n 0, 1) := by decide +kernel
theorem dX11_report_64 : decode cX11_report 64 = .ok (.getfield 40, 3) := by decide +kernel
theorem dX11_report_67 : decode cX11_report 67 = .ok (.getfield 191, 3) := by decide +kernel
theorem dX11_report_70 : decode cX11_report 70 = .ok (.iload_n 1, 1) := by decide +kernel
theorem dX11_report_71 : decode cX11_report 71 = .ok (.iload_n 2, 1) := by decide +kernel
theorem dX11_report_72 : decode cX11_report 72 = .ok (.iload_n 3, 1) := by decide +kernel
theorem dX11_report_73 : decode cX11_report 73 = .ok (.invokevirtual 220, 3) := by decide +kernel
theorem dX11_report_76 : decode cX11_report 76 = .ok (.ireturn, 1) := by decide +kernel
theorem dX11_liars_0 : decode cX11_liars 0 = .ok (.iload_n 1, 1) := by decide +kernel
theorem dX11_liars_1 : decode cX11_liars 1 = .ok (.iconst 0, 1) := by decide +kernel
theorem dX11_liars_2 : decode cX11_liars 2 = .ok (.iconst 1, 1) := by decide +kernel
theorem dX11_liars_3 : decode cX11_liars 3 = .ok (.invokestatic 64, 3) := by decide +kernel
theorem dX11_liars_6 : decode cX11_liars 6 = .ok (.ifCond .ne 10, 3) := by decide +kernel
theorem dX11_liars_9 : decode cX11_liars 9 = .ok (.aload_n 0, 1) := by decide +kernel
theorem dX11_liars_10 : decode cX11_liars 10 = .ok (.bipush (-2), 2) := by decide +kernel
theorem dX11_liars_12 : decode cX11_liars 12 = .ok (.invokevirtual 68, 3) := by decide +kernel
theorem dX11_liars_15 : decode cX11_liars 15 = .ok (.ireturn, 1) := by decide +kernel
theorem dX11_liars_16 : decode cX11_liars 16 = .ok (.aload_n 0, 1) := by decide +kernel
theorem dX11_liars_17 : decode cX11_liars 17 = .ok (.getfield 40, 3) := by decide +kernel
theorem dX11_liars_20 : decode cX11_liars 20 = .ok (.getfield 72, 3) := by decide +kernel
theorem dX11_liars_23 : decode cX11_liars 23 = .ok (.getfield 93, 3) := by decide +kernel
theorem dX11_liars_26 : decode cX11_liars 26 = .ok (.istore_n 2, 1) := by decide +kernel
theorem dX11_liars_27 : decode cX11_liars 27 = .ok (.iload_n 1, 1) := by decide +kernel
theorem dX11_liars_28 : decode cX11_liars 28 = .ok (.ifCond .ne 17, 3) := by decide +kernel
theorem dX11_liars_31 : decode cX11_liars 31 = .ok (.aload_n 0, 1) := by decide +kernel
theorem dX11_liars_32 : decode cX11_liars 32 = .ok (.getfield 40, 3) := by decide +kernel
theorem dX11_liars_35 : decode cX11_liars 35 = .ok (.getfield 191, 3) := by decide +kernel
theorem dX11_liars_38 : decode cX11_liars 38 = .ok (.iload_n 2, 1) := by decide +kernel
theorem dX11_liars_39 : decode cX11_liars 39 = .ok (.invokevirtual 223, 3) := by decide +kernel
theorem dX11_liars_42 : decode cX11_liars 42 = .ok (.goto 14, 3) := by decide +kernel
theorem dX11_liars_45 : decode cX11_liars 45 = .ok (.aload_n 0, 1) := by decide +kernel
theorem dX11_liars_46 : decode cX11_liars 46 = .ok (.getfield 40, 3) := by decide +kernel
theorem dX11_liars_49 : decode cX11_liars 49 = .ok (.getfield 191, 3) := by decide +kernel
theorem dX11_liars_52 : decode cX11_liars 52 = .ok (.iload_n 2, 1) := by decide +kernel
theorem dX11_liars_53 : decode cX11_liars 53 = .ok (.invokevirtual 226, 3) := by decide +kernel
theorem dX11_liars_56 : decode cX11_liars 56 = .ok (.ireturn, 1) := by decide +kernel
theorem dX11_none_0 : decode cX11_none 0 = .ok (.aload_n 0, 1) := by decide +kernel
theorem dX11_none_1 : decode cX11_none 1 = .ok (.getfield 40, 3) := by decide +kernel
theorem dX11_none_4 : decode cX11_none 4 = .ok (.getfield 191, 3) := by decide +kernel
theorem dX11_none_7 : decode cX11_none 7 = .ok (.iload_n 1, 1) := by decide +kernel
theorem dX11_none_8 : decode cX11_none 8 = .ok (.invokevirtual 229, 3) := by decide +kernel
theorem dX11_none_11 : decode cX11_none 11 = .ok (.istore_n 2, 1) := by decide +kernel
theorem dX11_none_12 : decode cX11_none 12 = .ok (.iload_n 2, 1) := by decide +kernel
theorem dX11_none_13 : decode cX11_none 13 = .ok (.iconst (-1), 1) := by decide +kernel
theorem dX11_none_14 : decode cX11_none 14 = .ok (.if_icmp .ne 10, 3) := by decide +kernel
theorem dX11_none_17 : decode cX11_none 17 = .ok (.aload_n 0, 1) := by decide +kernel
theorem dX11_none_18 : decode cX11_none 18 = .ok (.bipush (-2), 2) := by decide +kernel
theorem dX11_none_20 : decode cX11_none 20 = .ok (.invokevirtual 68, 3) := by decide +kernel
theorem dX11_none_23 : decode cX11_none 23 = .ok (.ireturn, 1) := by decide +kernel
theorem dX11_none_24 : decode cX11_none 24 = .ok (.aload_n 0, 1) := by decide +kernel
theorem dX11_none_25 : decode cX11_none 25 = .ok (.getfield 40, 3) := by decide +kernel
theorem dX11_none_28 : decode cX11_none 28 = .ok (.getfield 191, 3) := by decide +kernel
theorem dX11_none_31 : decode cX11_none 31 = .ok (.iload_n 1, 1) := by decide +kernel
theorem dX11_none_32 : decode cX11_none 32 = .ok (.invokevirtual 232, 3) := by decide +kernel
theorem dX11_none_35 : decode cX11_none 35 = .ok (.iload_n 2, 1) := by decide +kernel
theorem dX11_none_36 : decode cX11_none 36 = .ok (.ireturn, 1) := by decide +kernel
theorem dX11_lots_0 : decode cX11_lots 0 = .ok (.aload_n 0, 1) := by decide +kernel
theorem dX11_lots_1 : decode cX11_lots 1 = .ok (.getfield 40, 3) := by decide +kernel
theorem dX11_lots_4 : decode cX11_lots 4 = .ok (.getfield 72, 3) := by decide +kernel
theorem dX11_lots_7 : decode cX11_lots 7 = .ok (.getfield 93, 3) := by decide +kernel
theorem dX11_lots_10 : decode cX11_lots 10 = .ok (.istore_n 3, 1) := by decide +kernel
theorem dX11_lots_11 : decode cX11_lots 11 = .ok (.iload_n 1, 1) := by decide +kernel
theorem dX11_lots_12 : decode cX11_lots 12 = .ok (.iconst 0, 1) := by decide +kernel
theorem dX11_lots_13 : decode cX11_lots 13 = .ok (.ldc 235, 2) := by decide +kernel
theorem dX11_lots_15 : decode cX11_lots 15 = .ok (.invokestatic 64, 3) := by decide +kernel
theorem dX11_lots_18 : decode cX11_lots 18 = .ok (.ifCond .eq 12, 3) := by decide +kernel
theorem dX11_lots_21 : decode cX11_lots 21 = .ok (.iload_n 2, 1) := by decide +kernel
theorem dX11_lots_22 : decode cX11_lots 22 = .ok (.iconst 0, 1) := by decide +kernel
theorem dX11_lots_23 : decode cX11_lots 23 = .ok (.iload_n 3, 1) := by decide +kernel
theorem dX11_lots_24 : decode cX11_lots 24 = .ok (.invokestatic 64, 3) := by decide +kernel
theorem dX11_lots_27 : decode cX11_lots 27 = .ok (.ifCond .ne 10, 3) := by decide +kernel
theorem dX11_lots_30 : decode cX11_lots 30 = .ok (.aload_n 0, 1) := by decide +kernel
theorem dX11_lots_31 : decode cX11_lots 31 = .ok (.bipush (-2), 2) := by decide +kernel
theorem dX11_lots_33 : decode cX11_lots 33 = .ok (.invokevirtual 68, 3) := by decide +kernel
theorem dX11_lots_36 : decode cX11_lots 36 = .ok (.ireturn, 1) := by decide +kernel
theorem dX11_lots_37 : decode cX11_lots 37 = .ok (.iload_n 1, 1) := by decide +kernel
theorem dX11_lots_38 : decode cX11_lots 38 = .ok (.i2l, 1) := by decide +kernel
theorem dX11_lots_39 : decode cX11_lots 39 = .ok (.lstore 4, 2) := by decide +kernel
theorem dX11_lots_41 : decode cX11_lots 41 = .ok (.iconst 0, 1) := by decide +kernel
theorem dX11_lots_42 : decode cX11_lots 42 = .ok (.istore 6, 2) := by decide +kernel
theorem dX11_lots_44 : decode cX11_lots 44 = .ok (.iconst 0, 1) := by decide +kernel
theorem dX11_lots_45 : decode cX11_lots 45 = .ok (.istore 7, 2) := by decide +kernel
theorem dX11_lots_47 : decode cX11_lots 47 = .ok (.iload 7, 2) := by decide +kernel
theorem dX11_lots_49 : decode cX11_lots 49 = .ok (.iload_n 2, 1) := by decide +kernel
theorem dX11_lots_50 : decode cX11_lots 50 = .ok (.if_icmp .ge 56, 3) := by decide +kernel
theorem dX11_lots_53 : decode cX11_lots 53 = .ok (.lload 4, 2) := by decide +kernel
theorem dX11_lots_55 : decode cX11_lots 55 = .ok (.ldc2_w 236, 3) := by decide +kernel
theorem dX11_lots_58 : decode cX11_lots 58 = .ok (.lmul, 1) := by decide +kernel
theorem dX11_lots_59 : decode cX11_lots 59 = .ok (.ldc2_w 238, 3) := by decide +kernel
theorem dX11_lots_62 : decode cX11_lots 62 = .ok (.ladd, 1) := by decide +kernel
theorem dX11_lots_63 : decode cX11_lots 63 = .ok (.ldc2_w 240, 3) := by decide +kernel
theorem dX11_lots_66 : decode cX11_lots 66 = .ok (.lrem, 1) := by decide +kernel
theorem dX11_lots_67 : decode cX11_lots 67 = .ok (.lstore 4, 2) := by decide +kernel
theorem dX11_lots_69 : decode cX11_lots 69 = .ok (.lload 4, 2) := by decide +kernel
theorem dX11_lots_71 : decode cX11_lots 71 = .ok (.ldc2_w 242, 3) := by decide +kernel
theorem dX11_lots_74 : decode cX11_lots 74 = .ok (.ldiv, 1) := by decide +kernel
theorem dX11_lots_75 : decode cX11_lots 75 = .ok (.l2i, 1) := by decide +kernel
theorem dX11_lots_76 : decode cX11_lots 76 = .ok (.iload_n 3, 1) := by decide +kernel
theorem dX11_lots_77 : decode cX11_lots 77 = .ok (.iload 7, 2) := by decide +kernel
theorem dX11_lots_79 : decode cX11_lots 79 = .ok (.isub, 1) := by decide +kernel
theorem dX11_lots_80 : decode cX11_lots 80 = .ok (.invokestatic 244, 3) := by decide +kernel
theorem dX11_lots_83 : decode cX11_lots 83 = .ok (.istore 8, 2) := by decide +kernel
theorem dX11_lots_85 : decode cX11_lots 85 = .ok (.iload 6, 2) := by decide +kernel
theorem dX11_lots_87 : decode cX11_lots 87 = .ok (.iconst 1, 1) := by decide +kernel
theorem dX11_lots_88 : decode cX11_lots 88 = .ok (.iload 6, 2) := by decide +kernel
theorem dX11_lots_90 : decode cX11_lots 90 = .ok (.iload 8, 2) := by decide +kernel
theorem dX11_lots_92 : decode cX11_lots 92 = .ok (.iload_n 3, 1) := by decide +kernel
theorem dX11_lots_93 : decode cX11_lots 93 = .ok (.invokestatic 247, 3) := by decide +kernel
theorem dX11_lots_96 : decode cX11_lots 96 = .ok (.ishl, 1) := by decide +kernel
theorem dX11_lots_97 : decode cX11_lots 97 = .ok (.ior, 1) := by decide +kernel
theorem dX11_lots_98 : decode cX11_lots 98 = .ok (.istore 6, 2) := by decide +kernel
theorem dX11_lots_100 : decode cX11_lots 100 = .ok (.iinc 7 1, 3) := by decide +kernel
theorem dX11_lots_103 : decode cX11_lots 103 = .ok (.goto (-56), 3) := by decide +kernel
theorem dX11_lots_106 : decode cX11_lots 106 = .ok (.iload 6, 2) := by decide +kernel
theorem dX11_lots_108 : decode cX11_lots 108 = .ok (.ireturn, 1) := by decide +kernel
theorem dX11_word_0 : decode cX11_word 0 = .ok (.aload_n 0, 1) := by decide +kernel
theorem dX11_word_1 : decode cX11_word 1 = .ok (.iload_n 1, 1) := by decide +kernel
theorem dX11_word_2 : decode cX11_word 2 = .ok (.iload_n 2, 1) := by decide +kernel
theorem dX11_word_3 : decode cX11_word 3 = .ok (.iload_n 3, 1) := by decide +kernel
theorem dX11_word_4 : decode cX11_word 4 = .ok (.iload 4, 2) := by decide +kernel
theorem dX11_word_6 : decode cX11_word 6 = .ok (.iload 5, 2) := by decide +kernel
theorem dX11_word_8 : decode cX11_word 8 = .ok (.iload 6, 2) := by decide +kernel
theorem dX11_word_10 : decode cX11_word 10 = .ok (.invokevirtual 250, 3) := by decide +kernel
theorem dX11_word_13 : decode cX11_word 13 = .ok (.ifCond .ne 10, 3) := by decide +kernel
theorem dX11_word_16 : decode cX11_word 16 = .ok (.aload_n 0, 1) := by decide +kernel
theorem dX11_word_17 : decode cX11_word 17 = .ok (.bipush (-2), 2) := by decide +kernel
theorem dX11_word_19 : decode cX11_word 19 = .ok (.invokevirtual 68, 3) := by decide +kernel
theorem dX11_word_22 : decode cX11_word 22 = .ok (.ireturn, 1) := by decide +kernel
theorem dX11_word_23 : decode cX11_word 23 = .ok (.aload_n 0, 1) := by decide +kernel
theorem dX11_word_24 : decode cX11_word 24 = .ok (.getfield 40, 3) := by decide +kernel
theorem dX11_word_27 : decode cX11_word 27 = .ok (.getfield 191, 3) := by decide +kernel
theorem dX11_word_30 : decode cX11_word 30 = .ok (.getfield 254, 3) := by decide +kernel
theorem dX11_word_33 : decode cX11_word 33 = .ok (.iconst 4, 1) := by decide +kernel
theorem dX11_word_34 : decode cX11_word 34 = .ok (.if_icmp .lt 8, 3) := by decide +kernel
theorem dX11_word_37 : decode cX11_word 37 = .ok (.aload_n 0, 1) := by decide +kernel
theorem dX11_word_38 : decode cX11_word 38 = .ok (.invokevirtual 96, 3) := by decide +kernel
theorem dX11_word_41 : decode cX11_word 41 = .ok (.ireturn, 1) := by decide +kernel
theorem dX11_word_42 : decode cX11_word 42 = .ok (.aload_n 0, 1) := by decide +kernel
theorem dX11_word_43 : decode cX11_word 43 = .ok (.getfield 40, 3) := by decide +kernel
theorem dX11_word_46 : decode cX11_word 46 = .ok (.getfield 191, 3) := by decide +kernel
theorem dX11_word_49 : decode cX11_word 49 = .ok (.aload_n 0, 1) := by decide +kernel
theorem dX11_word_50 : decode cX11_word 50 = .ok (.getfield 16, 3) := by decide +kernel
theorem dX11_word_53 : decode cX11_word 53 = .ok (.invokevirtual 257, 3) := by decide +kernel
theorem dX11_word_56 : decode cX11_word 56 = .ok (.ireturn, 1) := by decide +kernel
theorem dX11_toldOn_0 : decode cX11_toldOn 0 = .ok (.aload_n 0, 1) := by decide +kernel
theorem dX11_toldOn_1 : decode cX11_toldOn 1 = .ok (.iload_n 1, 1) := by decide +kernel
theorem dX11_toldOn_2 : decode cX11_toldOn 2 = .ok (.invokevirtual 261, 3) := by decide +kernel
theorem dX11_toldOn_5 : decode cX11_toldOn 5 = .ok (.ifCond .eq 22, 3) := by decide +kernel
theorem dX11_toldOn_8 : decode cX11_toldOn 8 = .ok (.iload_n 2, 1) := by decide +kernel
theorem dX11_toldOn_9 : decode cX11_toldOn 9 = .ok (.iconst 0, 1) := by decide +kernel
theorem dX11_toldOn_10 : decode cX11_toldOn 10 = .ok (.bipush 30, 2) := by decide +kernel
theorem dX11_toldOn_12 : decode cX11_toldOn 12 = .ok (.invokestatic 64, 3) := by decide +kernel
theorem dX11_toldOn_15 : decode cX11_toldOn 15 = .ok (.ifCond .eq 12, 3) := by decide +kernel
theorem dX11_toldOn_18 : decode cX11_toldOn 18 = .ok (.iload_n 3, 1) := by decide +kernel
theorem dX11_toldOn_19 : decode cX11_toldOn 19 = .ok (.iconst 0, 1) := by decide +kernel
theorem dX11_toldOn_20 : decode cX11_toldOn 20 = .ok (.iconst 5, 1) := by decide +kernel
theorem dX11_toldOn_21 : decode cX11_toldOn 21 = .ok (.invokestatic 64, 3) := by decide +kernel
theorem dX11_toldOn_24 : decode cX11_toldOn 24 = .ok (.ifCond .ne 10, 3) := by decide +kernel
theorem dX11_toldOn_27 : decode cX11_toldOn 27 = .ok (.aload_n 0, 1) := by decide +kernel
theorem dX11_toldOn_28 : decode cX11_toldOn 28 = .ok (.bipush (-2), 2) := by decide +kernel
theorem dX11_toldOn_30 : decode cX11_toldOn 30 = .ok (.invokevirtual 68, 3) := by decide +kernel
theorem dX11_toldOn_33 : decode cX11_toldOn 33 = .ok (.ireturn, 1) := by decide +kernel
theorem dX11_toldOn_34 : decode cX11_toldOn 34 = .ok (.aload_n 0, 1) := by decide +kernel
theorem dX11_toldOn_35 : decode cX11_toldOn 35 = .ok (.getfield 40, 3) := by decide +kernel
theorem dX11_toldOn_38 : decode cX11_toldOn 38 = .ok (.getfield 191, 3) := by decide +kernel
theorem dX11_toldOn_41 : decode cX11_toldOn 41 = .ok (.iload_n 1, 1) := by decide +kernel
theorem dX11_toldOn_42 : decode cX11_toldOn 42 = .ok (.iload_n 3, 1) := by decide +kernel
theorem dX11_toldOn_43 : decode cX11_toldOn 43 = .ok (.invokevirtual 264, 3) := by decide +kernel
theorem dX11_toldOn_46 : decode cX11_toldOn 46 = .ok (.istore 4, 2) := by decide +kernel
theorem dX11_toldOn_48 : decode cX11_toldOn 48 = .ok (.iconst 1, 1) := by decide +kernel
theorem dX11_toldOn_49 : decode cX11_toldOn 49 = .ok (.istore 5, 2) := by decide +kernel
theorem dX11_toldOn_51 : decode cX11_toldOn 51 = .ok (.iload 5, 2) := by decide +kernel
theorem dX11_toldOn_53 : decode cX11_toldOn 53 = .ok (.iload_n 2, 1) := by decide +kernel
theorem dX11_toldOn_54 : decode cX11_toldOn 54 = .ok (.if_icmp .gt 36, 3) := by decide +kernel
theorem dX11_toldOn_57 : decode cX11_toldOn 57 = .ok (.iload 5, 2) := by decide +kernel
theorem dX11_toldOn_59 : decode cX11_toldOn 59 = .ok (.bipush 6, 2) := by decide +kernel
theorem dX11_toldOn_61 : decode cX11_toldOn 61 = .ok (.irem, 1) := by decide +kernel
theorem dX11_toldOn_62 : decode cX11_toldOn 62 = .ok (.iload_n 3, 1) := by decide +kernel
theorem dX11_toldOn_63 : decode cX11_toldOn 63 = .ok (.if_icmp .ne 21, 3) := by decide +kernel
theorem dX11_toldOn_66 : decode cX11_toldOn 66 = .ok (.iload 4, 2) := by decide +kernel
theorem dX11_toldOn_68 : decode cX11_toldOn 68 = .ok (.iload 5, 2) := by decide +kernel
theorem dX11_toldOn_70 : decode cX11_toldOn 70 = .ok (.iconst 2, 1) := by decide +kernel
theorem dX11_toldOn_71 : decode cX11_toldOn 71 = .ok (.irem, 1) := by decide +kernel
theorem dX11_toldOn_72 : decode cX11_toldOn 72 = .ok (.iconst 1, 1) := by decide +kernel
theorem dX11_toldOn_73 : decode cX11_toldOn 73 = .ok (.if_icmp .ne 7, 3) := by decide +kernel
theorem dX11_toldOn_76 : decode cX11_toldOn 76 = .ok (.iconst 1, 1) := by decide +kernel
theorem dX11_toldOn_77 : decode cX11_toldOn 77 = .ok (.goto 4, 3) := by decide +kernel
theorem dX11_toldOn_80 : decode cX11_toldOn 80 = .ok (.iconst (-1), 1) := by decide +kernel
theorem dX11_toldOn_81 : decode cX11_toldOn 81 = .ok (.iadd, 1) := by decide +kernel
theorem dX11_toldOn_82 : decode cX11_toldOn 82 = .ok (.istore 4, 2) := by decide +kernel
theorem dX11_toldOn_84 : decode cX11_toldOn 84 = .ok (.iinc 5 1, 3) := by decide +kernel
theorem dX11_toldOn_87 : decode cX11_toldOn 87 = .ok (.goto (-36), 3) := by decide +kernel
theorem dX11_toldOn_90 : decode cX11_toldOn 90 = .ok (.iload 4, 2) := by decide +kernel
theorem dX11_toldOn_92 : decode cX11_toldOn 92 = .ok (.bipush 26, 2) := by decide +kernel
theorem dX11_toldOn_94 : decode cX11_toldOn 94 = .ok (.invokestatic 267, 3) := by decide +kernel
theorem dX11_toldOn_97 : decode cX11_toldOn 97 = .ok (.ireturn, 1) := by decide +kernel
theorem dX11_apart_0 : decode cX11_apart 0 = .ok (.aload_n 0, 1) := by decide +kernel
theorem dX11_apart_1 : decode cX11_apart 1 = .ok (.iload_n 1, 1) := by decide +kernel
theorem dX11_apart_2 : decode cX11_apart 2 = .ok (.invokevirtual 261, 3) := by decide +kernel
theorem dX11_apart_5 : decode cX11_apart 5 = .ok (.ifCond .eq 11, 3) := by decide +kernel
theorem dX11_apart_8 : decode cX11_apart 8 = .ok (.aload_n 0, 1) := by decide +kernel
theorem dX11_apart_9 : decode cX11_apart 9 = .ok (.iload_n 2, 1) := by decide +kernel
theorem dX11_apart_10 : decode cX11_apart 10 = .ok (.invokevirtual 261, 3) := by decide +kernel
theorem dX11_apart_13 : decode cX11_apart 13 = .ok (.ifCond .ne 10, 3) := by decide +kernel
theorem dX11_apart_16 : decode cX11_apart 16 = .ok (.aload_n 0, 1) := by decide +kernel
theorem dX11_apart_17 : decode cX11_apart 17 = .ok (.bipush (-2), 2) := by decide +kernel
theorem dX11_apart_19 : decode cX11_apart 19 = .ok (.invokevirtual 68, 3) := by decide +kernel
theorem dX11_apart_22 : decode cX11_apart 22 = .ok (.ireturn, 1) := by decide +kernel
theorem dX11_apart_23 : decode cX11_apart 23 = .ok (.aload_n 0, 1) := by decide +kernel
theorem dX11_apart_24 : decode cX11_apart 24 = .ok (.getfield 40, 3) := by decide +kernel
theorem dX11_apart_27 : decode cX11_apart 27 = .ok (.getfield 191, 3) := by decide +kernel
theorem dX11_apart_30 : decode cX11_apart 30 = .ok (.iload_n 1, 1) := by decide +kernel
theorem dX11_apart_31 : decode cX11_apart 31 = .ok (.iload_n 2, 1) := by decide +kernel
theorem dX11_apart_32 : decode cX11_apart 32 = .ok (.invokevirtual 272, 3) := by decide +kernel
theorem dX11_apart_35 : decode cX11_apart 35 = .ok (.ireturn, 1) := by decide +kernel
theorem dX11_bears_0 : decode cX11_bears 0 = .ok (.aload_n 0, 1) := by decide +kernel
theorem dX11_bears_1 : decode cX11_bears 1 = .ok (.getfield 40, 3) := by decide +kernel
theorem dX11_bears_4 : decode cX11_bears 4 = .ok (.getfield 191, 3) := by decide +kernel
theorem dX11_bears_7 : decode cX11_bears 7 = .ok (.invokevirtual 275, 3) := by decide +kernel
theorem dX11_bears_10 : decode cX11_bears 10 = .ok (.istore_n 1, 1) := by decide +kernel
theorem dX11_bears_11 : decode cX11_bears 11 = .ok (.iload_n 1, 1) := by decide +kernel
theorem dX11_bears_12 : decode cX11_bears 12 = .ok (.iconst (-1), 1) := by decide +kernel
theorem dX11_bears_13 : decode cX11_bears 13 = .ok (.if_icmp .ne 7, 3) := by decide +kernel
theorem dX11_bears_16 : decode cX11_bears 16 = .ok (.iconst (-1), 1) := by decide +kernel
theorem dX11_bears_17 : decode cX11_bears 17 = .ok (.goto 12, 3) := by decide +kernel
theorem dX11_bears_20 : decode cX11_bears 20 = .ok (.iconst 0, 1) := by decide +kernel
theorem dX11_bears_21 : decode cX11_bears 21 = .ok (.iload_n 1, 1) := by decide +kernel
theorem dX11_bears_22 : decode cX11_bears 22 = .ok (.iconst 1, 1) := by decide +kernel
theorem dX11_bears_23 : decode cX11_bears 23 = .ok (.isub, 1) := by decide +kernel
theorem dX11_bears_24 : decode cX11_bears 24 = .ok (.invokestatic 278, 3) := by decide +kernel
theorem dX11_bears_27 : decode cX11_bears 27 = .ok (.iconst 2, 1) := by decide +kernel
theorem dX11_bears_28 : decode cX11_bears 28 = .ok (.idiv, 1) := by decide +kernel
theorem dX11_bears_29 : decode cX11_bears 29 = .ok (.ireturn, 1) := by decide +kernel
theorem dX11_meant_0 : decode cX11_meant 0 = .ok (.aload_n 0, 1) := by decide +kernel
theorem dX11_meant_1 : decode cX11_meant 1 = .ok (.iload_n 1, 1) := by decide +kernel
theorem dX11_meant_2 : decode cX11_meant 2 = .ok (.iload_n 2, 1) := by decide +kernel
theorem dX11_meant_3 : decode cX11_meant 3 = .ok (.iload_n 3, 1) := by decide +kernel
theorem dX11_meant_4 : decode cX11_meant 4 = .ok (.iload 4, 2) := by decide +kernel
theorem dX11_meant_6 : decode cX11_meant 6 = .ok (.iload 5, 2) := by decide +kernel
theorem dX11_meant_8 : decode cX11_meant 8 = .ok (.iload 6, 2) := by decide +kernel
theorem dX11_meant_10 : decode cX11_meant 10 = .ok (.invokevirtual 250, 3) := by decide +kernel
theorem dX11_meant_13 : decode cX11_meant 13 = .ok (.ifCond .ne 10, 3) := by decide +kernel
theorem dX11_meant_16 : decode cX11_meant 16 = .ok (.aload_n 0, 1) := by decide +kernel
theorem dX11_meant_17 : decode cX11_meant 17 = .ok (.bipush (-2), 2) := by decide +kernel
theorem dX11_meant_19 : decode cX11_meant 19 = .ok (.invokevirtual 68, 3) := by decide +kernel
theorem dX11_meant_22 : decode cX11_meant 22 = .ok (.ireturn, 1) := by decide +kernel
theorem dX11_meant_23 : decode cX11_meant 23 = .ok (.aload_n 0, 1) := by decide +kernel
theorem dX11_meant_24 : decode cX11_meant 24 = .ok (.getfield 40, 3) := by decide +kernel
theorem dX11_meant_27 : decode cX11_meant 27 = .ok (.getfield 191, 3) := by decide +kernel
theorem dX11_meant_30 : decode cX11_meant 30 = .ok (.aload_n 0, 1) := by decide +kernel
theorem dX11_meant_31 : decode cX11_meant 31 = .ok (.getfield 16, 3) := by decide +kernel
theorem dX11_meant_34 : decode cX11_meant 34 = .ok (.invokevirtual 281, 3) := by decide +kernel
theorem dX11_meant_37 : decode cX11_meant 37 = .ok (.ireturn, 1) := by decide +kernel
theorem dX11_meet_0 : decode cX11_meet 0 = .ok (.iload_n 1, 1) := by decide +kernel
theorem dX11_meet_1 : decode cX11_meet 1 = .ok (.iconst 2, 1) := by decide +kernel
theorem dX11_meet_2 : decode cX11_meet 2 = .ok (.bipush 70, 2) := by decide +kernel
theorem dX11_meet_4 : decode cX11_meet 4 = .ok (.invokestatic 64, 3) := by decide +kernel
theorem dX11_meet_7 : decode cX11_meet 7 = .ok (.ifCond .eq 14, 3) := by decide +kernel
theorem dX11_meet_10 : decode cX11_meet 10 = .ok (.iload_n 2, 1) := by decide +kernel
theorem dX11_meet_11 : decode cX11_meet 11 = .ok (.iconst 0, 1) := by decide +kernel
theorem dX11_meet_12 : decode cX11_meet 12 = .ok (.iload_n 1, 1) := by decide +kernel
theorem dX11_meet_13 : decode cX11_meet 13 = .ok (.iconst 1, 1) := by decide +kernel
theorem dX11_meet_14 : decode cX11_meet 14 = .ok (.isub, 1) := by decide +kernel
theorem dX11_meet_15 : decode cX11_meet 15 = .ok (.invokestatic 64, 3) := by decide +kernel
theorem dX11_meet_18 : decode cX11_meet 18 = .ok (.ifCond .ne 10, 3) := by decide +kernel
theorem dX11_meet_21 : decode cX11_meet 21 = .ok (.aload_n 0, 1) := by decide +kernel
theorem dX11_meet_22 : decode cX11_meet 22 = .ok (.bipush (-2), 2) := by decide +kernel
theorem dX11_meet_24 : decode cX11_meet 24 = .ok (.invokevirtual 68, 3) := by decide +kernel
theorem dX11_meet_27 : decode cX11_meet 27 = .ok (.ireturn, 1) := by decide +kernel
theorem dX11_meet_28 : decode cX11_meet 28 = .ok (.aload_n 0, 1) := by decide +kernel
theorem dX11_meet_29 : decode cX11_meet 29 = .ok (.getfield 40, 3) := by decide +kernel
theorem dX11_meet_32 : decode cX11_meet 32 = .ok (.getfield 72, 3) := by decide +kernel
theorem dX11_meet_35 : decode cX11_meet 35 = .ok (.getfield 76, 3) := by decide +kernel
theorem dX11_meet_38 : decode cX11_meet 38 = .ok (.istore_n 3, 1) := by decide +kernel
theorem dX11_meet_39 : decode cX11_meet 39 = .ok (.aload_n 0, 1) := by decide +kernel
theorem dX11_meet_40 : decode cX11_meet 40 = .ok (.getfield 40, 3) := by decide +kernel
theorem dX11_meet_43 : decode cX11_meet 43 = .ok (.getfield 72, 3) := by decide +kernel
theorem dX11_meet_46 : decode cX11_meet 46 = .ok (.invokevirtual 207, 3) := by decide +kernel
theorem dX11_meet_49 : decode cX11_meet 49 = .ok (.istore 4, 2) := by decide +kernel
theorem dX11_meet_51 : decode cX11_meet 51 = .ok (.iload_n 2, 1) := by decide +kernel
theorem dX11_meet_52 : decode cX11_meet 52 = .ok (.istore 5, 2) := by decide +kernel
theorem dX11_meet_54 : decode cX11_meet 54 = .ok (.iload 5, 2) := by decide +kernel
theorem dX11_meet_56 : decode cX11_meet 56 = .ok (.iload_n 3, 1) := by decide +kernel
theorem dX11_meet_57 : decode cX11_meet 57 = .ok (.iload_n 1, 1) := by decide +kernel
theorem dX11_meet_58 : decode cX11_meet 58 = .ok (.imul, 1) := by decide +kernel
theorem dX11_meet_59 : decode cX11_meet 59 = .ok (.if_icmp .ge 26, 3) := by decide +kernel
theorem dX11_meet_62 : decode cX11_meet 62 = .ok (.iload 5, 2) := by decide +kernel
theorem dX11_meet_64 : decode cX11_meet 64 = .ok (.iload_n 3, 1) := by decide +kernel
theorem dX11_meet_65 : decode cX11_meet 65 = .ok (.invokestatic 244, 3) := by decide +kernel
theorem dX11_meet_68 : decode cX11_meet 68 = .ok (.iload 4, 2) := by decide +kernel
theorem dX11_meet_70 : decode cX11_meet 70 = .ok (.if_icmp .ne 6, 3) := by decide +kernel
theorem dX11_meet_73 : decode cX11_meet 73 = .ok (.iload 5, 2) := by decide +kernel
theorem dX11_meet_75 : decode cX11_meet 75 = .ok (.ireturn, 1) := by decide +kernel
theorem dX11_meet_76 : decode cX11_meet 76 = .ok (.iload 5, 2) := by decide +kernel
theorem dX11_meet_78 : decode cX11_meet 78 = .ok (.iload_n 1, 1) := by decide +kernel
theorem dX11_meet_79 : decode cX11_meet 79 = .ok (.iadd, 1) := by decide +kernel
theorem dX11_meet_80 : decode cX11_meet 80 = .ok (.istore 5, 2) := by decide +kernel
theorem dX11_meet_82 : decode cX11_meet 82 = .ok (.goto (-28), 3) := by decide +kernel
theorem dX11_meet_85 : decode cX11_meet 85 = .ok (.iconst (-1), 1) := by decide +kernel
theorem dX11_meet_86 : decode cX11_meet 86 = .ok (.ireturn, 1) := by decide +kernel
theorem dX11_part_0 : decode cX11_part 0 = .ok (.iload_n 1, 1) := by decide +kernel
theorem dX11_part_1 : decode cX11_part 1 = .ok (.iconst 0, 1) := by decide +kernel
theorem dX11_part_2 : decode cX11_part 2 = .ok (.iconst 1, 1) := by decide +kernel
theorem dX11_part_3 : decode cX11_part 3 = .ok (.invokestatic 64, 3) := by decide +kernel
theorem dX11_part_6 : decode cX11_part 6 = .ok (.ifCond .ne 11, 3) := by decide +kernel
theorem dX11_part_9 : decode cX11_part 9 = .ok (.aload_n 0, 1) := by decide +kernel
theorem dX11_part_10 : decode cX11_part 10 = .ok (.bipush (-2), 2) := by decide +kernel
theorem dX11_part_12 : decode cX11_part 12 = .ok (.invokevirtual 68, 3) := by decide +kernel
theorem dX11_part_15 : decode cX11_part 15 = .ok (.i2l, 1) := by decide +kernel
theorem dX11_part_16 : decode cX11_part 16 = .ok (.lreturn, 1) := by decide +kernel
theorem dX11_part_17 : decode cX11_part 17 = .ok (.iload_n 1, 1) := by decide +kernel
theorem dX11_part_18 : decode cX11_part 18 = .ok (.ifCond .ne 10, 3) := by decide +kernel
theorem dX11_part_21 : decode cX11_part 21 = .ok (.aload_n 0, 1) := by decide +kernel
theorem dX11_part_22 : decode cX11_part 22 = .ok (.getfield 284, 3) := by decide +kernel
theorem dX11_part_25 : decode cX11_part 25 = .ok (.goto 7, 3) := by decide +kernel
theorem dX11_part_28 : decode cX11_part 28 = .ok (.aload_n 0, 1) := by decide +kernel
theorem dX11_part_29 : decode cX11_part 29 = .ok (.getfield 60, 3) := by decide +kernel
theorem dX11_part_32 : decode cX11_part 32 = .ok (.lreturn, 1) := by decide +kernel
theorem dX11_image_0 : decode cX11_image 0 = .ok (.iload_n 1, 1) := by decide +kernel
theorem dX11_image_1 : decode cX11_image 1 = .ok (.iconst 0, 1) := by decide +kernel
theorem dX11_image_2 : decode cX11_image 2 = .ok (.iconst 1, 1) := by decide +kernel
theorem dX11_image_3 : decode cX11_image 3 = .ok (.invokestatic 64, 3) := by decide +kernel
theorem dX11_image_6 : decode cX11_image 6 = .ok (.ifCond .ne 10, 3) := by decide +kernel
theorem dX11_image_9 : decode cX11_image 9 = .ok (.aload_n 0, 1) := by decide +kernel
theorem dX11_image_10 : decode cX11_image 10 = .ok (.bipush (-2), 2) := by decide +kernel
theorem dX11_image_12 : decode cX11_image 12 = .ok (.invokevirtual 68, 3) := by decide +kernel
theorem dX11_image_15 : decode cX11_image 15 = .ok (.ireturn, 1) := by decide +kernel
theorem dX11_image_16 : decode cX11_image 16 = .ok (.aload_n 0, 1) := by decide +kernel
theorem dX11_image_17 : decode cX11_image 17 = .ok (.iload_n 1, 1) := by decide +kernel
theorem dX11_image_18 : decode cX11_image 18 = .ok (.invokevirtual 287, 3) := by decide +kernel
theorem dX11_image_21 : decode cX11_image 21 = .ok (.aload_n 0, 1) := by decide +kernel
theorem dX11_image_22 : decode cX11_image 22 = .ok (.getfield 40, 3) := by decide +kernel
theorem dX11_image_25 : decode cX11_image 25 = .ok (.invokevirtual 125, 3) := by decide +kernel
theorem dX11_image_28 : decode cX11_image 28 = .ok (.aload_n 0, 1) := by decide +kernel
theorem dX11_image_29 : decode cX11_image 29 = .ok (.dup, 1) := by decide +kernel
theorem dX11_image_30 : decode cX11_image 30 = .ok (.getfield 291, 3) := by decide +kernel
theorem dX11_image_33 : decode cX11_image 33 = .ok (.iconst 1, 1) := by decide +kernel
theorem dX11_image_34 : decode cX11_image 34 = .ok (.iload_n 1, 1) := by decide +kernel
theorem dX11_image_35 : decode cX11_image 35 = .ok (.ishl, 1) := by decide +kernel
theorem dX11_image_36 : decode cX11_image 36 = .ok (.ior, 1) := by decide +kernel
theorem dX11_image_37 : decode cX11_image 37 = .ok (.putfield 291, 3) := by decide +kernel
theorem dX11_image_40 : decode cX11_image 40 = .ok (.iconst 1, 1) := by decide +kernel
theorem dX11_image_41 : decode cX11_image 41 = .ok (.ireturn, 1) := by decide +kernel
theorem dX11_from_0 : decode cX11_from 0 = .ok (.iload_n 1, 1) := by decide +kernel
theorem dX11_from_1 : decode cX11_from 1 = .ok (.iconst 0, 1) := by decide +kernel
theorem dX11_from_2 : decode cX11_from 2 = .ok (.iconst 1, 1) := by decide +kernel
theorem dX11_from_3 : decode cX11_from 3 = .ok (.invokestatic 64, 3) := by decide +kernel
theorem dX11_from_6 : decode cX11_from 6 = .ok (.ifCond .ne 10, 3) := by decide +kernel
theorem dX11_from_9 : decode cX11_from 9 = .ok (.aload_n 0, 1) := by decide +kernel
theorem dX11_from_10 : decode cX11_from 10 = .ok (.bipush (-2), 2) := by decide +kernel
theorem dX11_from_12 : decode cX11_from 12 = .ok (.invokevirtual 68, 3) := by decide +kernel
theorem dX11_from_15 : decode cX11_from 15 = .ok (.ireturn, 1) := by decide +kernel
theorem dX11_from_16 : decode cX11_from 16 = .ok (.aload_n 0, 1) := by decide +kernel
theorem dX11_from_17 : decode cX11_from 17 = .ok (.getfield 291, 3) := by decide +kernel
theorem dX11_from_20 : decode cX11_from 20 = .ok (.iload_n 1, 1) := by decide +kernel
theorem dX11_from_21 : decode cX11_from 21 = .ok (.ishr, 1) := by decide +kernel
theorem dX11_from_22 : decode cX11_from 22 = .ok (.iconst 1, 1) := by decide +kernel
theorem dX11_from_23 : decode cX11_from 23 = .ok (.iand, 1) := by decide +kernel
theorem dX11_from_24 : decode cX11_from 24 = .ok (.ifCond .ne 8, 3) := by decide +kernel
theorem dX11_from_27 : decode cX11_from 27 = .ok (.aload_n 0, 1) := by decide +kernel
theorem dX11_from_28 : decode cX11_from 28 = .ok (.invokevirtual 136, 3) := by decide +kernel
theorem dX11_from_31 : decode cX11_from 31 = .ok (.ireturn, 1) := by decide +kernel
theorem dX11_from_32 : decode cX11_from 32 = .ok (.aload_n 0, 1) := by decide +kernel
theorem dX11_from_33 : decode cX11_from 33 = .ok (.getfield 40, 3) := by decide +kernel
theorem dX11_from_36 : decode cX11_from 36 = .ok (.aload_n 0, 1) := by decide +kernel
theorem dX11_from_37 : decode cX11_from 37 = .ok (.iload_n 1, 1) := by decide +kernel
theorem dX11_from_38 : decode cX11_from 38 = .ok (.invokevirtual 287, 3) := by decide +kernel
theorem dX11_from_41 : decode cX11_from 41 = .ok (.invokevirtual 125, 3) := by decide +kernel
theorem dX11_from_44 : decode cX11_from 44 = .ok (.iconst 1, 1) := by decide +kernel
theorem dX11_from_45 : decode cX11_from 45 = .ok (.ireturn, 1) := by decide +kernel
theorem dX11_status_0 : decode cX11_status 0 = .ok (.iload_n 1, 1) := by decide +kernel
theorem dX11_status_1 : decode cX11_status 1 = .ok (.tableswitch 42 0 2 #[27, 32, 37], 27) := by decide +kernel
theorem dX11_status_28 : decode cX11_status 28 = .ok (.aload_n 0, 1) := by decide +kernel
theorem dX11_status_29 : decode cX11_status 29 = .ok (.getfield 294, 3) := by decide +kernel
theorem dX11_status_32 : decode cX11_status 32 = .ok (.ireturn, 1) := by decide +kernel
theorem dX11_status_33 : decode cX11_status 33 = .ok (.aload_n 0, 1) := by decide +kernel
theorem dX11_status_34 : decode cX11_status 34 = .ok (.getfield 297, 3) := by decide +kernel
theorem dX11_status_37 : decode cX11_status 37 = .ok (.ireturn, 1) := by decide +kernel
theorem dX11_status_38 : decode cX11_status 38 = .ok (.aload_n 0, 1) := by decide +kernel
theorem dX11_status_39 : decode cX11_status 39 = .ok (.getfield 300, 3) := by decide +kernel
theorem dX11_status_42 : decode cX11_status 42 = .ok (.ireturn, 1) := by decide +kernel
theorem dX11_status_43 : decode cX11_status 43 = .ok (.aload_n 0, 1) := by decide +kernel
theorem dX11_status_44 : decode cX11_status 44 = .ok (.iconst (-1), 1) := by decide +kernel
theorem dX11_status_45 : decode cX11_status 45 = .ok (.invokevirtual 68, 3) := by decide +kernel
theorem dX11_status_48 : decode cX11_status 48 = .ok (.ireturn, 1) := by decide +kernel
theorem dX11_count_0 : decode cX11_count 0 = .ok (.iload_n 1, 1) := by decide +kernel
theorem dX11_count_1 : decode cX11_count 1 = .ok (.iconst 0, 1) := by decide +kernel
theorem dX11_count_2 : decode cX11_count 2 = .ok (.bipush 13, 2) := by decide +kernel
theorem dX11_count_4 : decode cX11_count 4 = .ok (.invokestatic 64, 3) := by decide +kernel
theorem dX11_count_7 : decode cX11_count 7 = .ok (.ifCond .eq 11, 3) := by decide +kernel
theorem dX11_count_10 : decode cX11_count 10 = .ok (.aload_n 0, 1) := by decide +kernel
theorem dX11_count_11 : decode cX11_count 11 = .ok (.iload_n 1, 1) := by decide +kernel
theorem dX11_count_12 : decode cX11_count 12 = .ok (.invokevirtual 303, 3) := by decide +kernel
theorem dX11_count_15 : decode cX11_count 15 = .ok (.goto 9, 3) := by decide +kernel
theorem dX11_count_18 : decode cX11_count 18 = .ok (.aload_n 0, 1) := by decide +kernel
theorem dX11_count_19 : decode cX11_count 19 = .ok (.bipush (-2), 2) := by decide +kernel
theorem dX11_count_21 : decode cX11_count 21 = .ok (.invokevirtual 68, 3) := by decide +kernel
theorem dX11_count_24 : decode cX11_count 24 = .ok (.ireturn, 1) := by decide +kernel
theorem dX11_digest_0 : decode cX11_digest 0 = .ok (.ldc2_w 306, 3) := by decide +kernel
theorem dX11_digest_3 : decode cX11_digest 3 = .ok (.lstore_n 1, 1) := by decide +kernel
theorem dX11_digest_4 : decode cX11_digest 4 = .ok (.iconst 0, 1) := by decide +kernel
theorem dX11_digest_5 : decode cX11_digest 5 = .ok (.istore_n 3, 1) := by decide +kernel
theorem dX11_digest_6 : decode cX11_digest 6 = .ok (.iload_n 3, 1) := by decide +kernel
theorem dX11_digest_7 : decode cX11_digest 7 = .ok (.bipush 13, 2) := by decide +kernel
theorem dX11_digest_9 : decode cX11_digest 9 = .ok (.if_icmp .gt 20, 3) := by decide +kernel
theorem dX11_digest_12 : decode cX11_digest 12 = .ok (.lload_n 1, 1) := by decide +kernel
theorem dX11_digest_13 : decode cX11_digest 13 = .ok (.aload_n 0, 1) := by decide +kernel
theorem dX11_digest_14 : decode cX11_digest 14 = .ok (.iload_n 3, 1) := by decide +kernel
theorem dX11_digest_15 : decode cX11_digest 15 = .ok (.invokevirtual 303, 3) := by decide +kernel
theorem dX11_digest_18 : decode cX11_digest 18 = .ok (.i2l, 1) := by decide +kernel
theorem dX11_digest_19 : decode cX11_digest 19 = .ok (.invokestatic 308, 3) := by decide +kernel
theorem dX11_digest_22 : decode cX11_digest 22 = .ok (.lstore_n 1, 1) := by decide +kernel
theorem dX11_digest_23 : decode cX11_digest 23 = .ok (.iinc 3 1, 3) := by decide +kernel
theorem dX11_digest_26 : decode cX11_digest 26 = .ok (.goto (-20), 3) := by decide +kernel
theorem dX11_digest_29 : decode cX11_digest 29 = .ok (.aload_n 0, 1) := by decide +kernel
theorem dX11_digest_30 : decode cX11_digest 30 = .ok (.getfield 40, 3) := by decide +kernel
theorem dX11_digest_33 : decode cX11_digest 33 = .ok (.getfield 72, 3) := by decide +kernel
theorem dX11_digest_36 : decode cX11_digest 36 = .ok (.lload_n 1, 1) := by decide +kernel
theorem dX11_digest_37 : decode cX11_digest 37 = .ok (.invokevirtual 312, 3) := by decide +kernel
theorem dX11_digest_40 : decode cX11_digest 40 = .ok (.lstore_n 1, 1) := by decide +kernel
theorem dX11_digest_41 : decode cX11_digest 41 = .ok (.aload_n 0, 1) := by decide +kernel
theorem dX11_digest_42 : decode cX11_digest 42 = .ok (.getfield 40, 3) := by decide +kernel
theorem dX11_digest_45 : decode cX11_digest 45 = .ok (.getfield 191, 3) := by decide +kernel
theorem dX11_digest_48 : decode cX11_digest 48 = .ok (.lload_n 1, 1) := by decide +kernel
theorem dX11_digest_49 : decode cX11_digest 49 = .ok (.invokevirtual 316, 3) := by decide +kernel
theorem dX11_digest_52 : decode cX11_digest 52 = .ok (.lstore_n 1, 1) := by decide +kernel
theorem dX11_digest_53 : decode cX11_digest 53 = .ok (.lload_n 1, 1) := by decide +kernel
theorem dX11_digest_54 : decode cX11_digest 54 = .ok (.aload_n 0, 1) := by decide +kernel
theorem dX11_digest_55 : decode cX11_digest 55 = .ok (.getfield 284, 3) := by decide +kernel
theorem dX11_digest_58 : decode cX11_digest 58 = .ok (.invokestatic 308, 3) := by decide +kernel
theorem dX11_digest_61 : decode cX11_digest 61 = .ok (.aload_n 0, 1) := by decide +kernel
theorem dX11_digest_62 : decode cX11_digest 62 = .ok (.getfield 60, 3) := by decide +kernel
theorem dX11_digest_65 : decode cX11_digest 65 = .ok (.invokestatic 308, 3) := by decide +kernel
theorem dX11_digest_68 : decode cX11_digest 68 = .ok (.lreturn, 1) := by decide +kernel
theorem dX11_refuseBad_0 : decode cX11_refuseBad 0 = .ok (.aload_n 0, 1) := by decide +kernel
theorem dX11_refuseBad_1 : decode cX11_refuseBad 1 = .ok (.dup, 1) := by decide +kernel
theorem dX11_refuseBad_2 : decode cX11_refuseBad 2 = .ok (.getfield 294, 3) := by decide +kernel
theorem dX11_refuseBad_5 : decode cX11_refuseBad 5 = .ok (.iconst 1, 1) := by decide +kernel
theorem dX11_refuseBad_6 : decode cX11_refuseBad 6 = .ok (.iadd, 1) := by decide +kernel
theorem dX11_refuseBad_7 : decode cX11_refuseBad 7 = .ok (.putfield 294, 3) := by decide +kernel
theorem dX11_refuseBad_10 : decode cX11_refuseBad 10 = .ok (.iload_n 1, 1) := by decide +kernel
theorem dX11_refuseBad_11 : decode cX11_refuseBad 11 = .ok (.ireturn, 1) := by decide +kernel
theorem dX11_refuseNo_0 : decode cX11_refuseNo 0 = .ok (.aload_n 0, 1) := by decide +kernel
theorem dX11_refuseNo_1 : decode cX11_refuseNo 1 = .ok (.dup, 1) := by decide +kernel
theorem dX11_refuseNo_2 : decode cX11_refuseNo 2 = .ok (.getfield 297, 3) := by decide +kernel
theorem dX11_refuseNo_5 : decode cX11_refuseNo 5 = .ok (.iconst 1, 1) := by decide +kernel
theorem dX11_refuseNo_6 : decode cX11_refuseNo 6 = .ok (.iadd, 1) := by decide +kernel
theorem dX11_refuseNo_7 : decode cX11_refuseNo 7 = .ok (.putfield 297, 3) := by decide +kernel
theorem dX11_refuseNo_10 : decode cX11_refuseNo 10 = .ok (.bipush (-3), 2) := by decide +kernel
theorem dX11_refuseNo_12 : decode cX11_refuseNo 12 = .ok (.ireturn, 1) := by decide +kernel
theorem dX11_refuseFull_0 : decode cX11_refuseFull 0 = .ok (.aload_n 0, 1) := by decide +kernel
theorem dX11_refuseFull_1 : decode cX11_refuseFull 1 = .ok (.dup, 1) := by decide +kernel
theorem dX11_refuseFull_2 : decode cX11_refuseFull 2 = .ok (.getfield 300, 3) := by decide +kernel
theorem dX11_refuseFull_5 : decode cX11_refuseFull 5 = .ok (.iconst 1, 1) := by decide +kernel
theorem dX11_refuseFull_6 : decode cX11_refuseFull 6 = .ok (.iadd, 1) := by decide +kernel
theorem dX11_refuseFull_7 : decode cX11_refuseFull 7 = .ok (.putfield 300, 3) := by decide +kernel
theorem dX11_refuseFull_10 : decode cX11_refuseFull 10 = .ok (.bipush (-4), 2) := by decide +kernel
theorem dX11_refuseFull_12 : decode cX11_refuseFull 12 = .ok (.ireturn, 1) := by decide +kernel
theorem dX11_isFamily_0 : decode cX11_isFamily 0 = .ok (.iload_n 1, 1) := by decide +kernel
theorem dX11_isFamily_1 : decode cX11_isFamily 1 = .ok (.iconst 0, 1) := by decide +kernel
theorem dX11_isFamily_2 : decode cX11_isFamily 2 = .ok (.aload_n 0, 1) := by decide +kernel
theorem dX11_isFamily_3 : decode cX11_isFamily 3 = .ok (.getfield 40, 3) := by decide +kernel
theorem dX11_isFamily_6 : decode cX11_isFamily 6 = .ok (.getfield 72, 3) := by decide +kernel
theorem dX11_isFamily_9 : decode cX11_isFamily 9 = .ok (.getfield 93, 3) := by decide +kernel
theorem dX11_isFamily_12 : decode cX11_isFamily 12 = .ok (.iconst 1, 1) := by decide +kernel
theorem dX11_isFamily_13 : decode cX11_isFamily 13 = .ok (.isub, 1) := by decide +kernel
theorem dX11_isFamily_14 : decode cX11_isFamily 14 = .ok (.invokestatic 64, 3) := by decide +kernel
theorem dX11_isFamily_17 : decode cX11_isFamily 17 = .ok (.ireturn, 1) := by decide +kernel
theorem dX11_isWord_0 : decode cX11_isWord 0 = .ok (.iload_n 1, 1) := by decide +kernel
theorem dX11_isWord_1 : decode cX11_isWord 1 = .ok (.iconst 0, 1) := by decide +kernel
theorem dX11_isWord_2 : decode cX11_isWord 2 = .ok (.aload_n 0, 1) := by decide +kernel
theorem dX11_isWord_3 : decode cX11_isWord 3 = .ok (.getfield 40, 3) := by decide +kernel
theorem dX11_isWord_6 : decode cX11_isWord 6 = .ok (.getfield 191, 3) := by decide +kernel
theorem dX11_isWord_9 : decode cX11_isWord 9 = .ok (.getfield 254, 3) := by decide +kernel
theorem dX11_isWord_12 : decode cX11_isWord 12 = .ok (.iconst 1, 1) := by decide +kernel
theorem dX11_isWord_13 : decode cX11_isWord 13 = .ok (.isub, 1) := by decide +kernel
theorem dX11_isWord_14 : decode cX11_isWord 14 = .ok (.invokestatic 64, 3) := by decide +kernel
theorem dX11_isWord_17 : decode cX11_isWord 17 = .ok (.ireturn, 1) := by decide +kernel
theorem dX11_imageAt_0 : decode cX11_imageAt 0 = .ok (.iload_n 1, 1) := by decide +kernel
theorem dX11_imageAt_1 : decode cX11_imageAt 1 = .ok (.ifCond .ne 10, 3) := by decide +kernel
theorem dX11_imageAt_4 : decode cX11_imageAt 4 = .ok (.aload_n 0, 1) := by decide +kernel
theorem dX11_imageAt_5 : decode cX11_imageAt 5 = .ok (.getfield 47, 3) := by decide +kernel
theorem dX11_imageAt_8 : decode cX11_imageAt 8 = .ok (.goto 7, 3) := by decide +kernel
theorem dX11_imageAt_11 : decode cX11_imageAt 11 = .ok (.aload_n 0, 1) := by decide +kernel
theorem dX11_imageAt_12 : decode cX11_imageAt 12 = .ok (.getfield 50, 3) := by decide +kernel
theorem dX11_imageAt_15 : decode cX11_imageAt 15 = .ok (.areturn, 1) := by decide +kernel
theorem dX11_takeLetters_0 : decode cX11_takeLetters 0 = .ok (.aload_n 0, 1) := by decide +kernel
theorem dX11_takeLetters_1 : decode cX11_takeLetters 1 = .ok (.getfield 16, 3) := by decide +kernel
theorem dX11_takeLetters_4 : decode cX11_takeLetters 4 = .ok (.iconst 0, 1) := by decide +kernel
theorem dX11_takeLetters_5 : decode cX11_takeLetters 5 = .ok (.iload_n 1, 1) := by decide +kernel
theorem dX11_takeLetters_6 : decode cX11_takeLetters 6 = .ok (.invokestatic 317, 3) := by decide +kernel
theorem dX11_takeLetters_9 : decode cX11_takeLetters 9 = .ok (.aload_n 0, 1) := by decide +kernel
theorem dX11_takeLetters_10 : decode cX11_takeLetters 10 = .ok (.getfield 16, 3) := by decide +kernel
theorem dX11_takeLetters_13 : decode cX11_takeLetters 13 = .ok (.iconst 1, 1) := by decide +kernel
theorem dX11_takeLetters_14 : decode cX11_takeLetters 14 = .ok (.iload_n 2, 1) := by decide +kernel
theorem dX11_takeLetters_15 : decode cX11_takeLetters 15 = .ok (.invokestatic 317, 3) := by decide +kernel
theorem dX11_takeLetters_18 : decode cX11_takeLetters 18 = .ok (.aload_n 0, 1) := by decide +kernel
theorem dX11_takeLetters_19 : decode cX11_takeLetters 19 = .ok (.getfield 16, 3) := by decide +kernel
theorem dX11_takeLetters_22 : decode cX11_takeLetters 22 = .ok (.iconst 2, 1) := by decide +kernel
theorem dX11_takeLetters_23 : decode cX11_takeLetters 23 = .ok (.iload_n 3, 1) := by decide +kernel
theorem dX11_takeLetters_24 : decode cX11_takeLetters 24 = .ok (.invokestatic 317, 3) := by decide +kernel
theorem dX11_takeLetters_27 : decode cX11_takeLetters 27 = .ok (.aload_n 0, 1) := by decide +kernel
theorem dX11_takeLetters_28 : decode cX11_takeLetters 28 = .ok (.getfield 16, 3) := by decide +kernel
theorem dX11_takeLetters_31 : decode cX11_takeLetters 31 = .ok (.iconst 3, 1) := by decide +kernel
theorem dX11_takeLetters_32 : decode cX11_takeLetters 32 = .ok (.iload 4, 2) := by decide +kernel
theorem dX11_takeLetters_34 : decode cX11_takeLetters 34 = .ok (.invokestatic 317, 3) := by decide +kernel
theorem dX11_takeLetters_37 : decode cX11_takeLetters 37 = .ok (.aload_n 0, 1) := by decide +kernel
theorem dX11_takeLetters_38 : decode cX11_takeLetters 38 = .ok (.getfield 16, 3) := by decide +kernel
theorem dX11_takeLetters_41 : decode cX11_takeLetters 41 = .ok (.iconst 4, 1) := by decide +kernel
theorem dX11_takeLetters_42 : decode cX11_takeLetters 42 = .ok (.iload 5, 2) := by decide +kernel
theorem dX11_takeLetters_44 : decode cX11_takeLetters 44 = .ok (.invokestatic 317, 3) := by decide +kernel
theorem dX11_takeLetters_47 : decode cX11_takeLetters 47 = .ok (.aload_n 0, 1) := by decide +kernel
theorem dX11_takeLetters_48 : decode cX11_takeLetters 48 = .ok (.getfield 16, 3) := by decide +kernel
theorem dX11_takeLetters_51 : decode cX11_takeLetters 51 = .ok (.iconst 5, 1) := by decide +kernel
theorem dX11_takeLetters_52 : decode cX11_takeLetters 52 = .ok (.iload 6, 2) := by decide +kernel
theorem dX11_takeLetters_54 : decode cX11_takeLetters 54 = .ok (.invokestatic 317, 3) := by decide +kernel
theorem dX11_takeLetters_57 : decode cX11_takeLetters 57 = .ok (.iconst 0, 1) := by decide +kernel
theorem dX11_takeLetters_58 : decode cX11_takeLetters 58 = .ok (.istore 7, 2) := by decide +kernel
theorem dX11_takeLetters_60 : decode cX11_takeLetters 60 = .ok (.iload 7, 2) := by decide +kernel
theorem dX11_takeLetters_62 : decode cX11_takeLetters 62 = .ok (.bipush 6, 2) := by decide +kernel
theorem dX11_takeLetters_64 : decode cX11_takeLetters 64 = .ok (.if_icmp .ge 29, 3) := by decide +kernel
theorem dX11_takeLetters_67 : decode cX11_takeLetters 67 = .ok (.aload_n 0, 1) := by decide +kernel
theorem dX11_takeLetters_68 : decode cX11_takeLetters 68 = .ok (.getfield 16, 3) := by decide +kernel
theorem dX11_takeLetters_71 : decode cX11_takeLetters 71 = .ok (.iload 7, 2) := by decide +kernel
theorem dX11_takeLetters_73 : decode cX11_takeLetters 73 = .ok (.invokestatic 321, 3) := by decide +kernel
theorem dX11_takeLetters_76 : decode cX11_takeLetters 76 = .ok (.iconst 0, 1) := by decide +kernel
theorem dX11_takeLetters_77 : decode cX11_takeLetters 77 = .ok (.bipush 25, 2) := by decide +kernel
theorem dX11_takeLetters_79 : decode cX11_takeLetters 79 = .ok (.invokestatic 64, 3) := by decide +kernel
theorem dX11_takeLetters_82 : decode cX11_takeLetters 82 = .ok (.ifCond .ne 5, 3) := by decide +kernel
theorem dX11_takeLetters_85 : decode cX11_takeLetters 85 = .ok (.iconst 0, 1) := by decide +kernel
theorem dX11_takeLetters_86 : decode cX11_takeLetters 86 = .ok (.ireturn, 1) := by decide +kernel
theorem dX11_takeLetters_87 : decode cX11_takeLetters 87 = .ok (.iinc 7 1, 3) := by decide +kernel
theorem dX11_takeLetters_90 : decode cX11_takeLetters 90 = .ok (.goto (-30), 3) := by decide +kernel
theorem dX11_takeLetters_93 : decode cX11_takeLetters 93 = .ok (.iconst 1, 1) := by decide +kernel
theorem dX11_takeLetters_94 : decode cX11_takeLetters 94 = .ok (.ireturn, 1) := by decide +kernel
theorem dX11_takeFraction_0 : decode cX11_takeFraction 0 = .ok (.lload_n 1, 1) := by decide +kernel
theorem dX11_takeFraction_1 : decode cX11_takeFraction 1 = .ok (.lload_n 3, 1) := by decide +kernel
theorem dX11_takeFraction_2 : decode cX11_takeFraction 2 = .ok (.invokestatic 325, 3) := by decide +kernel
theorem dX11_takeFraction_5 : decode cX11_takeFraction 5 = .ok (.lstore 5, 2) := by decide +kernel
theorem dX11_takeFraction_7 : decode cX11_takeFraction 7 = .ok (.lload 5, 2) := by decide +kernel
theorem dX11_takeFraction_9 : decode cX11_takeFraction 9 = .ok (.lconst 0, 1) := by decide +kernel
theorem dX11_takeFraction_10 : decode cX11_takeFraction 10 = .ok (.lcmp, 1) := by decide +kernel
theorem dX11_takeFraction_11 : decode cX11_takeFraction 11 = .ok (.ifCond .gt 4, 3) := by decide +kernel
theorem dX11_takeFraction_14 : decode cX11_takeFraction 14 = .ok (.return_, 1) := by decide +kernel
theorem dX11_takeFraction_15 : decode cX11_takeFraction 15 = .ok (.aload_n 0, 1) := by decide +kernel
theorem dX11_takeFraction_16 : decode cX11_takeFraction 16 = .ok (.lload_n 1, 1) := by decide +kernel
theorem dX11_takeFraction_17 : decode cX11_takeFraction 17 = .ok (.lload 5, 2) := by decide +kernel
theorem dX11_takeFraction_19 : decode cX11_takeFraction 19 = .ok (.ldiv, 1) := by decide +kernel
theorem dX11_takeFraction_20 : decode cX11_takeFraction 20 = .ok (.putfield 284, 3) := by decide +kernel
theorem dX11_takeFraction_23 : decode cX11_takeFraction 23 = .ok (.aload_n 0, 1) := by decide +kernel
theorem dX11_takeFraction_24 : decode cX11_takeFraction 24 = .ok (.lload_n 3, 1) := by decide +kernel
theorem dX11_takeFraction_25 : decode cX11_takeFraction 25 = .ok (.lload 5, 2) := by decide +kernel
theorem dX11_takeFraction_27 : decode cX11_takeFraction 27 = .ok (.ldiv, 1) := by decide +kernel
theorem dX11_takeFraction_28 : decode cX11_takeFraction 28 = .ok (.putfield 60, 3) := by decide +kernel
theorem dX11_takeFraction_31 : decode cX11_takeFraction 31 = .ok (.return_, 1) := by decide +kernel
theorem dX11_tally_0 : decode cX11_tally 0 = .ok (.iload_n 1, 1) := by decide +kernel
theorem dX11_tally_1 : decode cX11_tally 1 = .ok (.tableswitch 175 0 13 #[71, 82, 175, 175, 175, 175, 93, 104, 115, 126, 137, 148, 159, 167], 71) := by decide +kernel
theorem dX11_tally_72 : decode cX11_tally 72 = .ok (.aload_n 0, 1) := by decide +kernel
theorem dX11_tally_73 : decode cX11_tally 73 = .ok (.getfield 40, 3) := by decide +kernel
theorem dX11_tally_76 : decode cX11_tally 76 = .ok (.getfield 72, 3) := by decide +kernel
theorem dX11_tally_79 : decode cX11_tally 79 = .ok (.getfield 76, 3) := by decide +kernel
theorem dX11_tally_82 : decode cX11_tally 82 = .ok (.ireturn, 1) := by decide +kernel
theorem dX11_tally_83 : decode cX11_tally 83 = .ok (.aload_n 0, 1) := by decide +kernel
theorem dX11_tally_84 : decode cX11_tally 84 = .ok (.getfield 40, 3) := by decide +kernel
theorem dX11_tally_87 : decode cX11_tally 87 = .ok (.getfield 72, 3) := by decide +kernel
theorem dX11_tally_90 : decode cX11_tally 90 = .ok (.getfield 328, 3) := by decide +kernel
theorem dX11_tally_93 : decode cX11_tally 93 = .ok (.ireturn, 1) := by decide +kernel
theorem dX11_tally_94 : decode cX11_tally 94 = .ok (.aload_n 0, 1) := by decide +kernel
theorem dX11_tally_95 : decode cX11_tally 95 = .ok (.getfield 40, 3) := by decide +kernel
theorem dX11_tally_98 : decode cX11_tally 98 = .ok (.getfield 72, 3) := by decide +kernel
theorem dX11_tally_101 : decode cX11_tally 101 = .ok (.getfield 93, 3) := by decide +kernel
theorem dX11_tally_104 : decode cX11_tally 104 = .ok (.ireturn, 1) := by decide +kernel
theorem dX11_tally_105 : decode cX11_tally 105 = .ok (.aload_n 0, 1) := by decide +kernel
theorem dX11_tally_106 : decode cX11_tally 106 = .ok (.getfield 40, 3) := by decide +kernel
theorem dX11_tally_109 : decode cX11_tally 109 = .ok (.getfield 191, 3) := by decide +kernel
theorem dX11_tally_112 : decode cX11_tally 112 = .ok (.getfield 195, 3) := by decide +kernel
theorem dX11_tally_115 : decode cX11_tally 115 = .ok (.ireturn, 1) := by decide +kernel
theorem dX11_tally_116 : decode cX11_tally 116 = .ok (.aload_n 0, 1) := by decide +kernel
theorem dX11_tally_117 : decode cX11_tally 117 = .ok (.getfield 40, 3) := by decide +kernel
theorem dX11_tally_120 : decode cX11_tally 120 = .ok (.getfield 191, 3) := by decide +kernel
theorem dX11_tally_123 : decode cX11_tally 123 = .ok (.getfield 217, 3) := by decide +kernel
theorem dX11_tally_126 : decode cX11_tally 126 = .ok (.ireturn, 1) := by decide +kernel
theorem dX11_tally_127 : decode cX11_tally 127 = .ok (.aload_n 0, 1) := by decide +kernel
theorem dX11_tally_128 : decode cX11_tally 128 = .ok (.getfield 40, 3) := by decide +kernel
theorem dX11_tally_131 : decode cX11_tally 131 = .ok (.getfield 191, 3) := by decide +kernel
theorem dX11_tally_134 : decode cX11_tally 134 = .ok (.getfield 254, 3) := by decide +kernel
theorem dX11_tally_137 : decode cX11_tally 137 = .ok (.ireturn, 1) := by decide +kernel
theorem dX11_tally_138 : decode cX11_tally 138 = .ok (.aload_n 0, 1) := by decide +kernel
theorem dX11_tally_139 : decode cX11_tally 139 = .ok (.getfield 40, 3) := by decide +kernel
theorem dX11_tally_142 : decode cX11_tally 142 = .ok (.getfield 72, 3) := by decide +kernel
theorem dX11_tally_145 : decode cX11_tally 145 = .ok (.getfield 331, 3) := by decide +kernel
theorem dX11_tally_148 : decode cX11_tally 148 = .ok (.ireturn, 1) := by decide +kernel
theorem dX11_tally_149 : decode cX11_tally 149 = .ok (.aload_n 0, 1) := by decide +kernel
theorem dX11_tally_150 : decode cX11_tally 150 = .ok (.getfield 40, 3) := by decide +kernel
theorem dX11_tally_153 : decode cX11_tally 153 = .ok (.getfield 72, 3) := by decide +kernel
theorem dX11_tally_156 : decode cX11_tally 156 = .ok (.getfield 334, 3) := by decide +kernel
theorem dX11_tally_159 : decode cX11_tally 159 = .ok (.ireturn, 1) := by decide +kernel
theorem dX11_tally_160 : decode cX11_tally 160 = .ok (.aload_n 0, 1) := by decide +kernel
theorem dX11_tally_161 : decode cX11_tally 161 = .ok (.getfield 40, 3) := by decide +kernel
theorem dX11_tally_164 : decode cX11_tally 164 = .ok (.getfield 337, 3) := by decide +kernel
theorem dX11_tally_167 : decode cX11_tally 167 = .ok (.ireturn, 1) := by decide +kernel
theorem dX11_tally_168 : decode cX11_tally 168 = .ok (.aload_n 0, 1) := by decide +kernel
theorem dX11_tally_169 : decode cX11_tally 169 = .ok (.getfield 10, 3) := by decide +kernel
theorem dX11_tally_172 : decode cX11_tally 172 = .ok (.getfield 117, 3) := by decide +kernel
theorem dX11_tally_175 : decode cX11_tally 175 = .ok (.ireturn, 1) := by decide +kernel
theorem dX11_tally_176 : decode cX11_tally 176 = .ok (.aload_n 0, 1) := by decide +kernel
theorem dX11_tally_177 : decode cX11_tally 177 = .ok (.getfield 40, 3) := by decide +kernel
theorem dX11_tally_180 : decode cX11_tally 180 = .ok (.getfield 72, 3) := by decide +kernel
theorem dX11_tally_183 : decode cX11_tally 183 = .ok (.iload_n 1, 1) := by decide +kernel
theorem dX11_tally_184 : decode cX11_tally 184 = .ok (.iconst 2, 1) := by decide +kernel
theorem dX11_tally_185 : decode cX11_tally 185 = .ok (.isub, 1) := by decide +kernel
theorem dX11_tally_186 : decode cX11_tally 186 = .ok (.invokevirtual 86, 3) := by decide +kernel
theorem dX11_tally_189 : decode cX11_tally 189 = .ok (.ireturn, 1) := by decide +kernel
theorem dX11_within_0 : decode cX11_within 0 = .ok (.iload_n 0, 1) := by decide +kernel
theorem dX11_within_1 : decode cX11_within 1 = .ok (.iload_n 1, 1) := by decide +kernel
theorem dX11_within_2 : decode cX11_within 2 = .ok (.if_icmp .lt 12, 3) := by decide +kernel
theorem dX11_within_5 : decode cX11_within 5 = .ok (.iload_n 0, 1) := by decide +kernel
theorem dX11_within_6 : decode cX11_within 6 = .ok (.iload_n 2, 1) := by decide +kernel
theorem dX11_within_7 : decode cX11_within 7 = .ok (.if_icmp .gt 7, 3) := by decide +kernel
theorem dX11_within_10 : decode cX11_within 10 = .ok (.iconst 1, 1) := by decide +kernel
theorem dX11_within_11 : decode cX11_within 11 = .ok (.goto 4, 3) := by decide +kernel
theorem dX11_within_14 : decode cX11_within 14 = .ok (.iconst 0, 1) := by decide +kernel
theorem dX11_within_15 : decode cX11_within 15 = .ok (.ireturn, 1) := by decide +kernel
theorem dX11_leftOver_0 : decode cX11_leftOver 0 = .ok (.iload_n 1, 1) := by decide +kernel
theorem dX11_leftOver_1 : decode cX11_leftOver 1 = .ok (.ifCond .le 9, 3) := by decide +kernel
theorem dX11_leftOver_4 : decode cX11_leftOver 4 = .ok (.iload_n 0, 1) := by decide +kernel
theorem dX11_leftOver_5 : decode cX11_leftOver 5 = .ok (.iload_n 1, 1) := by decide +kernel
theorem dX11_leftOver_6 : decode cX11_leftOver 6 = .ok (.irem, 1) := by decide +kernel
theorem dX11_leftOver_7 : decode cX11_leftOver 7 = .ok (.goto 4, 3) := by decide +kernel
theorem dX11_leftOver_10 : decode cX11_leftOver 10 = .ok (.iconst 0, 1) := by decide +kernel
theorem dX11_leftOver_11 : decode cX11_leftOver 11 = .ok (.ireturn, 1) := by decide +kernel
theorem dX11_stored_0 : decode cX11_stored 0 = .ok (.iconst 0, 1) := by decide +kernel
theorem dX11_stored_1 : decode cX11_stored 1 = .ok (.sipush 9999, 3) := by decide +kernel
theorem dX11_stored_4 : decode cX11_stored 4 = .ok (.iload_n 0, 1) := by decide +kernel
theorem dX11_stored_5 : decode cX11_stored 5 = .ok (.invokestatic 340, 3) := by decide +kernel
theorem dX11_stored_8 : decode cX11_stored 8 = .ok (.invokestatic 278, 3) := by decide +kernel
theorem dX11_stored_11 : decode cX11_stored 11 = .ok (.ireturn, 1) := by decide +kernel
theorem dX11_mix_0 : decode cX11_mix 0 = .ok (.ldc2_w 343, 3) := by decide +kernel
theorem dX11_mix_3 : decode cX11_mix 3 = .ok (.lload_n 0, 1) := by decide +kernel
theorem dX11_mix_4 : decode cX11_mix 4 = .ok (.lmul, 1) := by decide +kernel
theorem dX11_mix_5 : decode cX11_mix 5 = .ok (.lload_n 2, 1) := by decide +kernel
theorem dX11_mix_6 : decode cX11_mix 6 = .ok (.ladd, 1) := by decide +kernel
theorem dX11_mix_7 : decode cX11_mix 7 = .ok (.lreturn, 1) := by decide +kernel
theorem dX11_commonDivisor_0 : decode cX11_commonDivisor 0 = .ok (.lload_n 0, 1) := by decide +kernel
theorem dX11_commonDivisor_1 : decode cX11_commonDivisor 1 = .ok (.lstore 4, 2) := by decide +kernel
theorem dX11_commonDivisor_3 : decode cX11_commonDivisor 3 = .ok (.lload_n 2, 1) := by decide +kernel
theorem dX11_commonDivisor_4 : decode cX11_commonDivisor 4 = .ok (.lstore 6, 2) := by decide +kernel
theorem dX11_commonDivisor_6 : decode cX11_commonDivisor 6 = .ok (.iconst 0, 1) := by decide +kernel
theorem dX11_commonDivisor_7 : decode cX11_commonDivisor 7 = .ok (.istore 8, 2) := by decide +kernel
theorem dX11_commonDivisor_9 : decode cX11_commonDivisor 9 = .ok (.iload 8, 2) := by decide +kernel
theorem dX11_commonDivisor_11 : decode cX11_commonDivisor 11 = .ok (.bipush 100, 2) := by decide +kernel
theorem dX11_commonDivisor_13 : decode cX11_commonDivisor 13 = .ok (.if_icmp .ge 31, 3) := by decide +kernel
theorem dX11_commonDivisor_16 : decode cX11_commonDivisor 16 = .ok (.lload 6, 2) := by decide +kernel
theorem dX11_commonDivisor_18 : decode cX11_commonDivisor 18 = .ok (.lconst 0, 1) := by decide +kernel
theorem dX11_commonDivisor_19 : decode cX11_commonDivisor 19 = .ok (.lcmp, 1) := by decide +kernel
theorem dX11_commonDivisor_20 : decode cX11_commonDivisor 20 = .ok (.ifCond .eq 24, 3) := by decide +kernel
theorem dX11_commonDivisor_23 : decode cX11_commonDivisor 23 = .ok (.lload 4, 2) := by decide +kernel
theorem dX11_commonDivisor_25 : decode cX11_commonDivisor 25 = .ok (.lload 6, 2) := by decide +kernel
theorem dX11_commonDivisor_27 : decode cX11_commonDivisor 27 = .ok (.lrem, 1) := by decide +kernel
theorem dX11_commonDivisor_28 : decode cX11_commonDivisor 28 = .ok (.lstore 9, 2) := by decide +kernel
theorem dX11_commonDivisor_30 : decode cX11_commonDivisor 30 = .ok (.lload 6, 2) := by decide +kernel
theorem dX11_commonDivisor_32 : decode cX11_commonDivisor 32 = .ok (.lstore 4, 2) := by decide +kernel
theorem dX11_commonDivisor_34 : decode cX11_commonDivisor 34 = .ok (.lload 9, 2) := by decide +kernel
theorem dX11_commonDivisor_36 : decode cX11_commonDivisor 36 = .ok (.lstore 6, 2) := by decide +kernel
theorem dX11_commonDivisor_38 : decode cX11_commonDivisor 38 = .ok (.iinc 8 1, 3) := by decide +kernel
theorem dX11_commonDivisor_41 : decode cX11_commonDivisor 41 = .ok (.goto (-32), 3) := by decide +kernel
theorem dX11_commonDivisor_44 : decode cX11_commonDivisor 44 = .ok (.lload 4, 2) := by decide +kernel
theorem dX11_commonDivisor_46 : decode cX11_commonDivisor 46 = .ok (.lreturn, 1) := by decide +kernel
theorem dX11_undrawn_0 : decode cX11_undrawn 0 = .ok (.iload_n 1, 1) := by decide +kernel
theorem dX11_undrawn_1 : decode cX11_undrawn 1 = .ok (.istore_n 3, 1) := by decide +kernel
theorem dX11_undrawn_2 : decode cX11_undrawn 2 = .ok (.iconst 0, 1) := by decide +kernel
theorem dX11_undrawn_3 : decode cX11_undrawn 3 = .ok (.istore 4, 2) := by decide +kernel
theorem dX11_undrawn_5 : decode cX11_undrawn 5 = .ok (.iload 4, 2) := by decide +kernel
theorem dX11_undrawn_7 : decode cX11_undrawn 7 = .ok (.iload_n 2, 1) := by decide +kernel
theorem dX11_undrawn_8 : decode cX11_undrawn 8 = .ok (.if_icmp .ge 31, 3) := by decide +kernel
theorem dX11_undrawn_11 : decode cX11_undrawn 11 = .ok (.iload_n 0, 1) := by decide +kernel
theorem dX11_undrawn_12 : decode cX11_undrawn 12 = .ok (.iload 4, 2) := by decide +kernel
theorem dX11_undrawn_14 : decode cX11_undrawn 14 = .ok (.ishr, 1) := by decide +kernel
theorem dX11_undrawn_15 : decode cX11_undrawn 15 = .ok (.iconst 1, 1) := by decide +kernel
theorem dX11_undrawn_16 : decode cX11_undrawn 16 = .ok (.iand, 1) := by decide +kernel
theorem dX11_undrawn_17 : decode cX11_undrawn 17 = .ok (.ifCond .eq 6, 3) := by decide +kernel
theorem dX11_undrawn_20 : decode cX11_undrawn 20 = .ok (.goto 13, 3) := by decide +kernel
theorem dX11_undrawn_23 : decode cX11_undrawn 23 = .ok (.iload_n 3, 1) := by decide +kernel
theorem dX11_undrawn_24 : decode cX11_undrawn 24 = .ok (.ifCond .ne 6, 3) := by decide +kernel
theorem dX11_undrawn_27 : decode cX11_undrawn 27 = .ok (.iload 4, 2) := by decide +kernel
theorem dX11_undrawn_29 : decode cX11_undrawn 29 = .ok (.ireturn, 1) := by decide +kernel
theorem dX11_undrawn_30 : decode cX11_undrawn 30 = .ok (.iinc 3 (-1), 3) := by decide +kernel
theorem dX11_undrawn_33 : decode cX11_undrawn 33 = .ok (.iinc 4 1, 3) := by decide +kernel
theorem dX11_undrawn_36 : decode cX11_undrawn 36 = .ok (.goto (-31), 3) := by decide +kernel
theorem dX11_undrawn_39 : decode cX11_undrawn 39 = .ok (.iconst 0, 1) := by decide +kernel
theorem dX11_undrawn_40 : decode cX11_undrawn 40 = .ok (.ireturn, 1) := by decide +kernel
theorem dX11_at_0 : decode cX11_at 0 = .ok (.iload_n 1, 1) := by decide +kernel
theorem dX11_at_1 : decode cX11_at 1 = .ok (.ifCond .lt 15, 3) := by decide +kernel
theorem dX11_at_4 : decode cX11_at 4 = .ok (.iload_n 1, 1) := by decide +kernel
theorem dX11_at_5 : decode cX11_at 5 = .ok (.aload_n 0, 1) := by decide +kernel
theorem dX11_at_6 : decode cX11_at 6 = .ok (.arraylength, 1) := by decide +kernel
theorem dX11_at_7 : decode cX11_at 7 = .ok (.if_icmp .ge 9, 3) := by decide +kernel
theorem dX11_at_10 : decode cX11_at 10 = .ok (.aload_n 0, 1) := by decide +kernel
theorem dX11_at_11 : decode cX11_at 11 = .ok (.iload_n 1, 1) := by decide +kernel
theorem dX11_at_12 : decode cX11_at 12 = .ok (.iaload, 1) := by decide +kernel
theorem dX11_at_13 : decode cX11_at 13 = .ok (.goto 4, 3) := by decide +kernel
theorem dX11_at_16 : decode cX11_at 16 = .ok (.iconst 0, 1) := by decide +kernel
theorem dX11_at_17 : decode cX11_at 17 = .ok (.ireturn, 1) := by decide +kernel
theorem dX11_put_0 : decode cX11_put 0 = .ok (.iload_n 1, 1) := by decide +kernel
theorem dX11_put_1 : decode cX11_put 1 = .ok (.ifCond .lt 13, 3) := by decide +kernel
theorem dX11_put_4 : decode cX11_put 4 = .ok (.iload_n 1, 1) := by decide +kernel
theorem dX11_put_5 : decode cX11_put 5 = .ok (.aload_n 0, 1) := by decide +kernel
theorem dX11_put_6 : decode cX11_put 6 = .ok (.arraylength, 1) := by decide +kernel
theorem dX11_put_7 : decode cX11_put 7 = .ok (.if_icmp .ge 7, 3) := by decide +kernel
theorem dX11_put_10 : decode cX11_put 10 = .ok (.aload_n 0, 1) := by decide +kernel
theorem dX11_put_11 : decode cX11_put 11 = .ok (.iload_n 1, 1) := by decide +kernel
theorem dX11_put_12 : decode cX11_put 12 = .ok (.iload_n 2, 1) := by decide +kernel
theorem dX11_put_13 : decode cX11_put 13 = .ok (.iastore, 1) := by decide +kernel
theorem dX11_put_14 : decode cX11_put 14 = .ok (.return_, 1) := by decide +kernel
theorem dX11_copy_0 : decode cX11_copy 0 = .ok (.iconst 0, 1) := by decide +kernel
theorem dX11_copy_1 : decode cX11_copy 1 = .ok (.istore_n 2, 1) := by decide +kernel
theorem dX11_copy_2 : decode cX11_copy 2 = .ok (.iload_n 2, 1) := by decide +kernel
theorem dX11_copy_3 : decode cX11_copy 3 = .ok (.aload_n 1, 1) := by decide +kernel
theorem dX11_copy_4 : decode cX11_copy 4 = .ok (.arraylength, 1) := by decide +kernel
theorem dX11_copy_5 : decode cX11_copy 5 = .ok (.if_icmp .ge 21, 3) := by decide +kernel
theorem dX11_copy_8 : decode cX11_copy 8 = .ok (.iload_n 2, 1) := by decide +kernel
theorem dX11_copy_9 : decode cX11_copy 9 = .ok (.aload_n 0, 1) := by decide +kernel
theorem dX11_copy_10 : decode cX11_copy 10 = .ok (.arraylength, 1) := by decide +kernel
theorem dX11_copy_11 : decode cX11_copy 11 = .ok (.if_icmp .ge 15, 3) := by decide +kernel
theorem dX11_copy_14 : decode cX11_copy 14 = .ok (.aload_n 1, 1) := by decide +kernel
theorem dX11_copy_15 : decode cX11_copy 15 = .ok (.iload_n 2, 1) := by decide +kernel
theorem dX11_copy_16 : decode cX11_copy 16 = .ok (.aload_n 0, 1) := by decide +kernel
theorem dX11_copy_17 : decode cX11_copy 17 = .ok (.iload_n 2, 1) := by decide +kernel
theorem dX11_copy_18 : decode cX11_copy 18 = .ok (.iaload, 1) := by decide +kernel
theorem dX11_copy_19 : decode cX11_copy 19 = .ok (.iastore, 1) := by decide +kernel
theorem dX11_copy_20 : decode cX11_copy 20 = .ok (.iinc 2 1, 3) := by decide +kernel
theorem dX11_copy_23 : decode cX11_copy 23 = .ok (.goto (-21), 3) := by decide +kernel
theorem dX11_copy_26 : decode cX11_copy 26 = .ok (.return_, 1) := by decide +kernel
theorem dX11_farmAt_0 : decode cX11_farmAt 0 = .ok (.iload_n 1, 1) := by decide +kernel
theorem dX11_farmAt_1 : decode cX11_farmAt 1 = .ok (.ifCond .lt 15, 3) := by decide +kernel
theorem dX11_farmAt_4 : decode cX11_farmAt 4 = .ok (.iload_n 1, 1) := by decide +kernel
theorem dX11_farmAt_5 : decode cX11_farmAt 5 = .ok (.aload_n 0, 1) := by decide +kernel
theorem dX11_farmAt_6 : decode cX11_farmAt 6 = .ok (.arraylength, 1) := by decide +kernel
theorem dX11_farmAt_7 : decode cX11_farmAt 7 = .ok (.if_icmp .ge 9, 3) := by decide +kernel
theorem dX11_farmAt_10 : decode cX11_farmAt 10 = .ok (.aload_n 0, 1) := by decide +kernel
theorem dX11_farmAt_11 : decode cX11_farmAt 11 = .ok (.iload_n 1, 1) := by decide +kernel
theorem dX11_farmAt_12 : decode cX11_farmAt 12 = .ok (.aaload, 1) := by decide +kernel
theorem dX11_farmAt_13 : decode cX11_farmAt 13 = .ok (.goto 4, 3) := by decide +kernel
theorem dX11_farmAt_16 : decode cX11_farmAt 16 = .ok (.aconst_null, 1) := by decide +kernel
theorem dX11_farmAt_17 : decode cX11_farmAt 17 = .ok (.areturn, 1) := by decide +kernel
theorem dX12_init_0 : decode cX12_init 0 = .ok (.aload_n 0, 1) := by decide +kernel
theorem dX12_init_1 : decode cX12_init 1 = .ok (.invokespecial 1, 3) := by decide +kernel
theorem dX12_init_4 : decode cX12_init 4 = .ok (.aload_n 0, 1) := by decide +kernel
theorem dX12_init_5 : decode cX12_init 5 = .ok (.sipush 236, 3) := by decide +kernel
theorem dX12_init_8 : decode cX12_init 8 = .ok (.newarray .int, 2) := by decide +kernel
theorem dX12_init_10 : decode cX12_init 10 = .ok (.putfield 7, 3) := by decide +kernel
theorem dX12_init_13 : decode cX12_init 13 = .ok (.aload_n 0, 1) := by decide +kernel
theorem dX12_init_14 : decode cX12_init 14 = .ok (.sipush 472, 3) := by decide +kernel
theorem dX12_init_17 : decode cX12_init 17 = .ok (.newarray .int, 2) := by decide +kernel
theorem dX12_init_19 : decode cX12_init 19 = .ok (.putfield 13, 3) := by decide +kernel
theorem dX12_init_22 : decode cX12_init 22 = .ok (.aload_n 0, 1) := by decide +kernel
theorem dX12_init_23 : decode cX12_init 23 = .ok (.iconst 2, 1) := by decide +kernel
theorem dX12_init_24 : decode cX12_init 24 = .ok (.newarray .boolean, 2) := by decide +kernel
theorem dX12_init_26 : decode cX12_init 26 = .ok (.putfield 16, 3) := by decide +kernel
theorem dX12_init_29 : decode cX12_init 29 = .ok (.aload_n 0, 1) := by decide +kernel
theorem dX12_init_30 : decode cX12_init 30 = .ok (.iconst 3, 1) := by decide +kernel
theorem dX12_init_31 : decode cX12_init 31 = .ok (.newarray .int, 2) := by decide +kernel
theorem dX12_init_33 : decode cX12_init 33 = .ok (.putfield 20, 3) := by decide +kernel
theorem dX12_init_36 : decode cX12_init 36 = .ok (.aload_n 0, 1) := by decide +kernel
theorem dX12_init_37 : decode cX12_init 37 = .ok (.lconst 1, 1) := by decide +kernel
theorem dX12_init_38 : decode cX12_init 38 = .ok (.putfield 23, 3) := by decide +kernel
theorem dX12_init_41 : decode cX12_init 41 = .ok (.aload_n 0, 1) := by decide +kernel
theorem dX12_init_42 : decode cX12_init 42 = .ok (.bipush 33, 2) := by decide +kernel
theorem dX12_init_44 : decode cX12_init 44 = .ok (.newarray .int, 2) := by decide +kernel
theorem dX12_init_46 : decode cX12_init 46 = .ok (.putfield 27, 3) := by decide +kernel
theorem dX12_init_49 : decode cX12_init 49 = .ok (.aload_n 0, 1) := by decide +kernel
theorem dX12_init_50 : decode cX12_init 50 = .ok (.bipush 64, 2) := by decide +kernel
theorem dX12_init_52 : decode cX12_init 52 = .ok (.newarray .int, 2) := by decide +kernel
theorem dX12_init_54 : decode cX12_init 54 = .ok (.putfield 30, 3) := by decide +kernel
theorem dX12_init_57 : decode cX12_init 57 = .ok (.aload_n 0, 1) := by decide +kernel
theorem dX12_init_58 : decode cX12_init 58 = .ok (.bipush 6, 2) := by decide +kernel
theorem dX12_init_60 : decode cX12_init 60 = .ok (.newarray .int, 2) := by decide +kernel
theorem dX12_init_62 : decode cX12_init 62 = .ok (.putfield 33, 3) := by decide +kernel
theorem dX12_init_65 : decode cX12_init 65 = .ok (.aload_n 0, 1) := by decide +kernel
theorem dX12_init_66 : decode cX12_init 66 = .ok (.bipush 6, 2) := by decide +kernel
theorem dX12_init_68 : decode cX12_init 68 = .ok (.newarray .int, 2) := by decide +kernel
theorem dX12_init_70 : decode cX12_init 70 = .ok (.putfield 36, 3) := by decide +kernel
theorem dX12_init_73 : decode cX12_init 73 = .ok (.aload_n 0, 1) := by decide +kernel
theorem dX12_init_74 : decode cX12_init 74 = .ok (.sipush 150, 3) := by decide +kernel
theorem dX12_init_77 : decode cX12_init 77 = .ok (.newarray .int, 2) := by decide +kernel
theorem dX12_init_79 : decode cX12_init 79 = .ok (.putfield 39, 3) := by decide +kernel
theorem dX12_init_82 : decode cX12_init 82 = .ok (.aload_n 0, 1) := by decide +kernel
theorem dX12_init_83 : decode cX12_init 83 = .ok (.bipush 116, 2) := by decide +kernel
theorem dX12_init_85 : decode cX12_init 85 = .ok (.newarray .int, 2) := by decide +kernel
theorem dX12_init_87 : decode cX12_init 87 = .ok (.putfield 42, 3) := by decide +kernel
theorem dX12_init_90 : decode cX12_init 90 = .ok (.aload_n 0, 1) := by decide +kernel
theorem dX12_init_91 : decode cX12_init 91 = .ok (.iconst 3, 1) := by decide +kernel
theorem dX12_init_92 : decode cX12_init 92 = .ok (.newarray .int, 2) := by decide +kernel
theorem dX12_init_94 : decode cX12_init 94 = .ok (.putfield 45, 3) := by decide +kernel
theorem dX12_init_97 : decode cX12_init 97 = .ok (.aload_n 0, 1) := by decide +kernel
theorem dX12_init_98 : decode cX12_init 98 = .ok (.getfield 7, 3) := by decide +kernel
theorem dX12_init_101 : decode cX12_init 101 = .ok (.bipush 10, 2) := by decide +kernel
theorem dX12_init_103 : decode cX12_init 103 = .ok (.invokestatic 48, 3) := by decide +kernel
theorem dX12_init_106 : decode cX12_init 106 = .ok (.return_, 1) := by decide +kernel
theorem dX12_in_0 : decode cX12_in 0 = .ok (.lload_n 0, 1) := by decide +kernel
theorem dX12_in_1 : decode cX12_in 1 = .ok (.lload_n 2, 1) := by decide +kernel
theorem dX12_in_2 : decode cX12_in 2 = .ok (.lcmp, 1) := by decide +kernel
theorem dX12_in_3 : decode cX12_in 3 = .ok (.ifCond .lt 14, 3) := by decide +kernel
theorem dX12_in_6 : decode cX12_in 6 = .ok (.lload_n 0, 1) := by decide +kernel
theorem dX12_in_7 : decode cX12_in 7 = .ok (.lload 4, 2) := by decide +kernel
theorem dX12_in_9 : decode cX12_in 9 = .ok (.lcmp, 1) := by decide +kernel
theorem dX12_in_10 : decode cX12_in 10 = .ok (.ifCond .gt 7, 3) := by decide +kernel
theorem dX12_in_13 : decode cX12_in 13 = .ok (.iconst 1, 1) := by decide +kernel
theorem dX12_in_14 : decode cX12_in 14 = .ok (.goto 4, 3) := by decide +kernel
theorem dX12_in_17 : decode cX12_in 17 = .ok (.iconst 0, 1) := by decide +kernel
theorem dX12_in_18 : decode cX12_in 18 = .ok (.ireturn, 1) := by decide +kernel
theorem dX12_bad_0 : decode cX12_bad 0 = .ok (.aload_n 0, 1) := by decide +kernel
theorem dX12_bad_1 : decode cX12_bad 1 = .ok (.getfield 20, 3) := by decide +kernel
theorem dX12_bad_4 : decode cX12_bad 4 = .ok (.iconst 0, 1) := by decide +kernel
theorem dX12_bad_5 : decode cX12_bad 5 = .ok (.dup2, 1) := by decide +kernel
theorem dX12_bad_6 : decode cX12_bad 6 = .ok (.iaload, 1) := by decide +kernel
theorem dX12_bad_7 : decode cX12_bad 7 = .ok (.iconst 1, 1) := by decide +kernel
theorem dX12_bad_8 : decode cX12_bad 8 = .ok (.iadd, 1) := by decide +kernel
theorem dX12_bad_9 : decode cX12_bad 9 = .ok (.iastore, 1) := by decide +kernel
theorem dX12_bad_10 : decode cX12_bad 10 = .ok (.iload_n 1, 1) := by decide +kernel
theorem dX12_bad_11 : decode cX12_bad 11 = .ok (.ireturn, 1) := by decide +kernel
theorem dX12_no_0 : decode cX12_no 0 = .ok (.aload_n 0, 1) := by decide +kernel
theorem dX12_no_1 : decode cX12_no 1 = .ok (.getfield 20, 3) := by decide +kernel
theorem dX12_no_4 : decode cX12_no 4 = .ok (.iconst 1, 1) := by decide +kernel
theorem dX12_no_5 : decode cX12_no 5 = .ok (.dup2, 1) := by decide +kernel
theorem dX12_no_6 : decode cX12_no 6 = .ok (.iaload, 1) := by decide +kernel
theorem dX12_no_7 : decode cX12_no 7 = .ok (.iconst 1, 1) := by decide +kernel
theorem dX12_no_8 : decode cX12_no 8 = .ok (.iadd, 1) := by decide +kernel
theorem dX12_no_9 : decode cX12_no 9 = .ok (.iastore, 1) := by decide +kernel
theorem dX12_no_10 : decode cX12_no 10 = .ok (.bipush (-3), 2) := by decide +kernel
theorem dX12_no_12 : decode cX12_no 12 = .ok (.ireturn, 1) := by decide +kernel
theorem dX12_full_0 : decode cX12_full 0 = .ok (.aload_n 0, 1) := by decide +kernel
theorem dX12_full_1 : decode cX12_full 1 = .ok (.getfield 20, 3) := by decide +kernel
theorem dX12_full_4 : decode cX12_full 4 = .ok (.iconst 2, 1) := by decide +kernel
theorem dX12_full_5 : decode cX12_full 5 = .ok (.dup2, 1) := by decide +kernel
theorem dX12_full_6 : decode cX12_full 6 = .ok (.iaload, 1) := by decide +kernel
theorem dX12_full_7 : decode cX12_full 7 = .ok (.iconst 1, 1) := by decide +kernel
theorem dX12_full_8 : decode cX12_full 8 = .ok (.iadd, 1) := by decide +kernel
theorem dX12_full_9 : decode cX12_full 9 = .ok (.iastore, 1) := by decide +kernel
theorem dX12_full_10 : decode cX12_full 10 = .ok (.bipush (-4), 2) := by decide +kernel
theorem dX12_full_12 : decode cX12_full 12 = .ok (.ireturn, 1) := by decide +kernel
theorem dX12_bits_0 : decode cX12_bits 0 = .ok (.iconst 0, 1) := by decide +kernel
theorem dX12_bits_1 : decode cX12_bits 1 = .ok (.istore_n 1, 1) := by decide +kernel
theorem dX12_bits_2 : decode cX12_bits 2 = .ok (.iload_n 0, 1) := by decide +kernel
theorem dX12_bits_3 : decode cX12_bits 3 = .ok (.istore_n 2, 1) := by decide +kernel
theorem dX12_bits_4 : decode cX12_bits 4 = .ok (.iload_n 2, 1) := by decide +kernel
theorem dX12_bits_5 : decode cX12_bits 5 = .ok (.ifCond .le 16, 3) := by decide +kernel
theorem dX12_bits_8 : decode cX12_bits 8 = .ok (.iload_n 1, 1) := by decide +kernel
theorem dX12_bits_9 : decode cX12_bits 9 = .ok (.iload_n 2, 1) := by decide +kernel
theorem dX12_bits_10 : decode cX12_bits 10 = .ok (.iconst 1, 1) := by decide +kernel
theorem dX12_bits_11 : decode cX12_bits 11 = .ok (.iand, 1) := by decide +kernel
theorem dX12_bits_12 : decode cX12_bits 12 = .ok (.iadd, 1) := by decide +kernel
theorem dX12_bits_13 : decode cX12_bits 13 = .ok (.istore_n 1, 1) := by decide +kernel
theorem dX12_bits_14 : decode cX12_bits 14 = .ok (.iload_n 2, 1) := by decide +kernel
theorem dX12_bits_15 : decode cX12_bits 15 = .ok (.iconst 1, 1) := by decide +kernel
theorem dX12_bits_16 : decode cX12_bits 16 = .ok (.ishr, 1) := by decide +kernel
theorem dX12_bits_17 : decode cX12_bits 17 = .ok (.istore_n 2, 1) := by decide +kernel
theorem dX12_bits_18 : decode cX12_bits 18 = .ok (.goto (-14), 3) := by decide +kernel
theorem dX12_bits_21 : decode cX12_bits 21 = .ok (.iload_n 1, 1) := by decide +kernel
theorem dX12_bits_22 : decode cX12_bits 22 = .ok (.ireturn, 1) := by decide +kernel
theorem dX12_begin_0 : decode cX12_begin 0 = .ok (.iconst 0, 1) := by decide +kernel
theorem dX12_begin_1 : decode cX12_begin 1 = .ok (.istore_n 2, 1) := by decide +kernel
theorem dX12_begin_2 : decode cX12_begin 2 = .ok (.iload_n 2, 1) := by decide +kernel
theorem dX12_begin_3 : decode cX12_begin 3 = .ok (.bipush 116, 2) := by decide +kernel
theorem dX12_begin_5 : decode cX12_begin 5 = .ok (.if_icmp .ge 13, 3) := by decide +kernel
theorem dX12_begin_8 : decode cX12_begin 8 = .ok (.aload_n 0, 1) := by decide +kernel
theorem dX12_begin_9 : decode cX12_begin 9 = .ok (.iload_n 2, 1) := by decide +kernel
theorem dX12_begin_10 : decode cX12_begin 10 = .ok (.iconst 0, 1) := by decide +kernel
theorem dX12_begin_11 : decode cX12_begin 11 = .ok (.iastore, 1) := by decide +kernel
theorem dX12_begin_12 : decode cX12_begin 12 = .ok (.iinc 2 1, 3) := by decide +kernel
theorem dX12_begin_15 : decode cX12_begin 15 = .ok (.goto (-13), 3) := by decide +kernel
theorem dX12_begin_18 : decode cX12_begin 18 = .ok (.aload_n 0, 1) := by decide +kernel
theorem dX12_begin_19 : decode cX12_begin 19 = .ok (.iconst 0, 1) := by decide +kernel
theorem dX12_begin_20 : decode cX12_begin 20 = .ok (.iload_n 1, 1) := by decide +kernel
theorem dX12_begin_21 : decode cX12_begin 21 = .ok (.iastore, 1) := by decide +kernel
theorem dX12_begin_22 : decode cX12_begin 22 = .ok (.return_, 1) := by decide +kernel
theorem dX12_families_0 : decode cX12_families 0 = .ok (.aload_n 0, 1) := by decide +kernel
theorem dX12_families_1 : decode cX12_families 1 = .ok (.getfield 7, 3) := by decide +kernel
theorem dX12_families_4 : decode cX12_families 4 = .ok (.bipush 6, 2) := by decide +kernel
theorem dX12_families_6 : decode cX12_families 6 = .ok (.iaload, 1) := by decide +kernel
theorem dX12_families_7 : decode cX12_families 7 = .ok (.ireturn, 1) := by decide +kernel
theorem dX12_isFamily_0 : decode cX12_isFamily 0 = .ok (.iload_n 1, 1) := by decide +kernel
theorem dX12_isFamily_1 : decode cX12_isFamily 1 = .ok (.i2l, 1) := by decide +kernel
theorem dX12_isFamily_2 : decode cX12_isFamily 2 = .ok (.lconst 0, 1) := by decide +kernel
theorem dX12_isFamily_3 : decode cX12_isFamily 3 = .ok (.aload_n 0, 1) := by decide +kernel
theorem dX12_isFamily_4 : decode cX12_isFamily 4 = .ok (.invokevirtual 52, 3) := by decide +kernel
theorem dX12_isFamily_7 : decode cX12_isFamily 7 = .ok (.iconst 1, 1) := by decide +kernel
theorem dX12_isFamily_8 : decode cX12_isFamily 8 = .ok (.isub, 1) := by decide +kernel
theorem dX12_isFamily_9 : decode cX12_isFamily 9 = .ok (.i2l, 1) := by decide +kernel
theorem dX12_isFamily_10 : decode cX12_isFamily 10 = .ok (.invokestatic 56, 3) := by decide +kernel
theorem dX12_isFamily_13 : decode cX12_isFamily 13 = .ok (.ireturn, 1) := by decide +kernel
theorem dX12_of_0 : decode cX12_of 0 = .ok (.aload_n 0, 1) := by decide +kernel
theorem dX12_of_1 : decode cX12_of 1 = .ok (.getfield 7, 3) := by decide +kernel
theorem dX12_of_4 : decode cX12_of 4 = .ok (.bipush 7, 2) := by decide +kernel
theorem dX12_of_6 : decode cX12_of 6 = .ok (.iconst 4, 1) := by decide +kernel
theorem dX12_of_7 : decode cX12_of 7 = .ok (.iload_n 1, 1) := by decide +kernel
theorem dX12_of_8 : decode cX12_of 8 = .ok (.imul, 1) := by decide +kernel
theorem dX12_of_9 : decode cX12_of 9 = .ok (.iadd, 1) := by decide +kernel
theorem dX12_of_10 : decode cX12_of 10 = .ok (.iload_n 2, 1) := by decide +kernel
theorem dX12_of_11 : decode cX12_of 11 = .ok (.iadd, 1) := by decide +kernel
theorem dX12_of_12 : decode cX12_of 12 = .ok (.iaload, 1) := by decide +kernel
theorem dX12_of_13 : decode cX12_of 13 = .ok (.ireturn, 1) := by decide +kernel
theorem dX12_year_0 : decode cX12_year 0 = .ok (.iload_n 1, 1) := by decide +kernel
theorem dX12_year_1 : decode cX12_year 1 = .ok (.i2l, 1) := by decide +kernel
theorem dX12_year_2 : decode cX12_year 2 = .ok (.ldc2_w 60, 3) := by decide +kernel
theorem dX12_year_5 : decode cX12_year 5 = .ok (.ldc2_w 62, 3) := by decide +kernel
theorem dX12_year_8 : decode cX12_year 8 = .ok (.invokestatic 56, 3) := by decide +kernel
theorem dX12_year_11 : decode cX12_year 11 = .ok (.ifCond .ne 10, 3) := by decide +kernel
theorem dX12_year_14 : decode cX12_year 14 = .ok (.aload_n 0, 1) := by decide +kernel
theorem dX12_year_15 : decode cX12_year 15 = .ok (.bipush (-2), 2) := by decide +kernel
theorem dX12_year_17 : decode cX12_year 17 = .ok (.invokevirtual 64, 3) := by decide +kernel
theorem dX12_year_20 : decode cX12_year 20 = .ok (.ireturn, 1) := by decide +kernel
theorem dX12_year_21 : decode cX12_year 21 = .ok (.aload_n 0, 1) := by decide +kernel
theorem dX12_year_22 : decode cX12_year 22 = .ok (.getfield 7, 3) := by decide +kernel
theorem dX12_year_25 : decode cX12_year 25 = .ok (.iconst 0, 1) := by decide +kernel
theorem dX12_year_26 : decode cX12_year 26 = .ok (.iaload, 1) := by decide +kernel
theorem dX12_year_27 : decode cX12_year 27 = .ok (.istore_n 2, 1) := by decide +kernel
theorem dX12_year_28 : decode cX12_year 28 = .ok (.aload_n 0, 1) := by decide +kernel
theorem dX12_year_29 : decode cX12_year 29 = .ok (.getfield 7, 3) := by decide +kernel
theorem dX12_year_32 : decode cX12_year 32 = .ok (.iload_n 1, 1) := by decide +kernel
theorem dX12_year_33 : decode cX12_year 33 = .ok (.invokestatic 48, 3) := by decide +kernel
theorem dX12_year_36 : decode cX12_year 36 = .ok (.iload_n 2, 1) := by decide +kernel
theorem dX12_year_37 : decode cX12_year 37 = .ok (.ireturn, 1) := by decide +kernel
theorem dX12_store_0 : decode cX12_store 0 = .ok (.iload_n 1, 1) := by decide +kernel
theorem dX12_store_1 : decode cX12_store 1 = .ok (.i2l, 1) := by decide +kernel
theorem dX12_store_2 : decode cX12_store 2 = .ok (.lconst 0, 1) := by decide +kernel
theorem dX12_store_3 : decode cX12_store 3 = .ok (.ldc2_w 68, 3) := by decide +kernel
theorem dX12_store_6 : decode cX12_store 6 = .ok (.invokestatic 56, 3) := by decide +kernel
theorem dX12_store_9 : decode cX12_store 9 = .ok (.ifCond .eq 15, 3) := by decide +kernel
theorem dX12_store_12 : decode cX12_store 12 = .ok (.iload_n 2, 1) := by decide +kernel
theorem dX12_store_13 : decode cX12_store 13 = .ok (.i2l, 1) := by decide +kernel
theorem dX12_store_14 : decode cX12_store 14 = .ok (.lconst 0, 1) := by decide +kernel
theorem dX12_store_15 : decode cX12_store 15 = .ok (.ldc2_w 70, 3) := by decide +kernel
theorem dX12_store_18 : decode cX12_store 18 = .ok (.invokestatic 56, 3) := by decide +kernel
theorem dX12_store_21 : decode cX12_store 21 = .ok (.ifCond .ne 10, 3) := by decide +kernel
theorem dX12_store_24 : decode cX12_store 24 = .ok (.aload_n 0, 1) := by decide +kernel
theorem dX12_store_25 : decode cX12_store 25 = .ok (.bipush (-2), 2) := by decide +kernel
theorem dX12_store_27 : decode cX12_store 27 = .ok (.invokevirtual 64, 3) := by decide +kernel
theorem dX12_store_30 : decode cX12_store 30 = .ok (.ireturn, 1) := by decide +kernel
theorem dX12_store_31 : decode cX12_store 31 = .ok (.aload_n 0, 1) := by decide +kernel
theorem dX12_store_32 : decode cX12_store 32 = .ok (.getfield 7, 3) := by decide +kernel
theorem dX12_store_35 : decode cX12_store 35 = .ok (.iconst 2, 1) := by decide +kernel
theorem dX12_store_36 : decode cX12_store 36 = .ok (.iload_n 1, 1) := by decide +kernel
theorem dX12_store_37 : decode cX12_store 37 = .ok (.iadd, 1) := by decide +kernel
theorem dX12_store_38 : decode cX12_store 38 = .ok (.iaload, 1) := by decide +kernel
theorem dX12_store_39 : decode cX12_store 39 = .ok (.istore_n 3, 1) := by decide +kernel
theorem dX12_store_40 : decode cX12_store 40 = .ok (.aload_n 0, 1) := by decide +kernel
theorem dX12_store_41 : decode cX12_store 41 = .ok (.getfield 7, 3) := by decide +kernel
theorem dX12_store_44 : decode cX12_store 44 = .ok (.iconst 2, 1) := by decide +kernel
theorem dX12_store_45 : decode cX12_store 45 = .ok (.iload_n 1, 1) := by decide +kernel
theorem dX12_store_46 : decode cX12_store 46 = .ok (.iadd, 1) := by decide +kernel
theorem dX12_store_47 : decode cX12_store 47 = .ok (.iload_n 2, 1) := by decide +kernel
theorem dX12_store_48 : decode cX12_store 48 = .ok (.iastore, 1) := by decide +kernel
theorem dX12_store_49 : decode cX12_store 49 = .ok (.iload_n 3, 1) := by decide +kernel
theorem dX12_store_50 : decode cX12_store 50 = .ok (.ireturn, 1) := by decide +kernel
theorem dX12_layFamily_0 : decode cX12_layFamily 0 = .ok (.bipush 7, 2) := by decide +kernel
theorem dX12_layFamily_2 : decode cX12_layFamily 2 = .ok (.iconst 4, 1) := by decide +kernel
theorem dX12_layFamily_3 : decode cX12_layFamily 3 = .ok (.aload_n 0, 1) := by decide +kernel
theorem dX12_layFamily_4 : decode cX12_layFamily 4 = .ok (.bipush 6, 2) := by decide +kernel
theorem dX12_layFamily_6 : decode cX12_layFamily 6 = .ok (.iaload, 1) := by decide +kernel
theorem dX12_layFamily_7 : decode cX12_layFamily 7 = .ok (.imul, 1) := by decide +kernel
theorem dX12_layFamily_8 : decode cX12_layFamily 8 = .ok (.iadd, 1) := by decide +kernel
theorem dX12_layFamily_9 : decode cX12_layFamily 9 = .ok (.istore 4, 2) := by decide +kernel
theorem dX12_layFamily_11 : decode cX12_layFamily 11 = .ok (.aload_n 0, 1) := by decide +kernel
theorem dX12_layFamily_12 : decode cX12_layFamily 12 = .ok (.iload 4, 2) := by decide +kernel
theorem dX12_layFamily_14 : decode cX12_layFamily 14 = .ok (.iconst 0, 1) := by decide +kernel
theorem dX12_layFamily_15 : decode cX12_layFamily 15 = .ok (.iadd, 1) := by decide +kernel
theorem dX12_layFamily_16 : decode cX12_layFamily 16 = .ok (.iload_n 1, 1) := by decide +kernel
theorem dX12_layFamily_17 : decode cX12_layFamily 17 = .ok (.iastore, 1) := by decide +kernel
theorem dX12_layFamily_18 : decode cX12_layFamily 18 = .ok (.aload_n 0, 1) := by decide +kernel
theorem dX12_layFamily_19 : decode cX12_layFamily 19 = .ok (.iload 4, 2) := by decide +kernel
theorem dX12_layFamily_21 : decode cX12_layFamily 21 = .ok (.iconst 1, 1) := by decide +kernel
theorem dX12_layFamily_22 : decode cX12_layFamily 22 = .ok (.iadd, 1) := by decide +kernel
theorem dX12_layFamily_23 : decode cX12_layFamily 23 = .ok (.iload_n 2, 1) := by decide +kernel
theorem dX12_layFamily_24 : decode cX12_layFamily 24 = .ok (.iastore, 1) := by decide +kernel
theorem dX12_layFamily_25 : decode cX12_layFamily 25 = .ok (.aload_n 0, 1) := by decide +kernel
theorem dX12_layFamily_26 : decode cX12_layFamily 26 = .ok (.iload 4, 2) := by decide +kernel
theorem dX12_layFamily_28 : decode cX12_layFamily 28 = .ok (.iconst 2, 1) := by decide +kernel
theorem dX12_layFamily_29 : decode cX12_layFamily 29 = .ok (.iadd, 1) := by decide +kernel
theorem dX12_layFamily_30 : decode cX12_layFamily 30 = .ok (.iload_n 3, 1) := by decide +kernel
theorem dX12_layFamily_31 : decode cX12_layFamily 31 = .ok (.iastore, 1) := by decide +kernel
theorem dX12_layFamily_32 : decode cX12_layFamily 32 = .ok (.aload_n 0, 1) := by decide +kernel
theorem dX12_layFamily_33 : decode cX12_layFamily 33 = .ok (.iload 4, 2) := by decide +kernel
theorem dX12_layFamily_35 : decode cX12_layFamily 35 = .ok (.iconst 3, 1) := by decide +kernel
theorem dX12_layFamily_36 : decode cX12_layFamily 36 = .ok (.iadd, 1) := by decide +kernel
theorem dX12_layFamily_37 : decode cX12_layFamily 37 = .ok (.iconst 0, 1) := by decide +kernel
theorem dX12_layFamily_38 : decode cX12_layFamily 38 = .ok (.iastore, 1) := by decide +kernel
theorem dX12_layFamily_39 : decode cX12_layFamily 39 = .ok (.aload_n 0, 1) := by decide +kernel
theorem dX12_layFamily_40 : decode cX12_layFamily 40 = .ok (.bipush 6, 2) := by decide +kernel
theorem dX12_layFamily_42 : decode cX12_layFamily 42 = .ok (.dup2, 1) := by decide +kernel
theorem dX12_layFamily_43 : decode cX12_layFamily 43 = .ok (.iaload, 1) := by decide +kernel
theorem dX12_layFamily_44 : decode cX12_layFamily 44 = .ok (.iconst 1, 1) := by decide +kernel
theorem dX12_layFamily_45 : decode cX12_layFamily 45 = .ok (.iadd, 1) := by decide +kernel
theorem dX12_layFamily_46 : decode cX12_layFamily 46 = .ok (.iastore, 1) := by decide +kernel
theorem dX12_layFamily_47 : decode cX12_layFamily 47 = .ok (.return_, 1) := by decide +kernel
theorem dX12_family_0 : decode cX12_family 0 = .ok (.iload_n 1, 1) := by decide +kernel
theorem dX12_family_1 : decode cX12_family 1 = .ok (.i2l, 1) := by decide +kernel
theorem dX12_family_2 : decode cX12_family 2 = .ok (.lconst 0, 1) := by decide +kernel
theorem dX12_family_3 : decode cX12_family 3 = .ok (.ldc2_w 72, 3) := by decide +kernel
theorem dX12_family_6 : decode cX12_family 6 = .ok (.invokestatic 56, 3) := by decide +kernel
theorem dX12_family_9 : decode cX12_family 9 = .ok (.ifCond .eq 27, 3) := by decide +kernel
theorem dX12_family_12 : decode cX12_family 12 = .ok (.iload_n 2, 1) := by decide +kernel
theorem dX12_family_13 : decode cX12_family 13 = .ok (.i2l, 1) := by decide +kernel
theorem dX12_family_14 : decode cX12_family 14 = .ok (.lconst 1, 1) := by decide +kernel
theorem dX12_family_15 : decode cX12_family 15 = .ok (.ldc2_w 74, 3) := by decide +kernel
theorem dX12_family_18 : decode cX12_family 18 = .ok (.invokestatic 56, 3) := by decide +kernel
theorem dX12_family_21 : decode cX12_family 21 = .ok (.ifCond .eq 15, 3) := by decide +kernel
theorem dX12_family_24 : decode cX12_family 24 = .ok (.iload_n 3, 1) := by decide +kernel
theorem dX12_family_25 : decode cX12_family 25 = .ok (.i2l, 1) := by decide +kernel
theorem dX12_family_26 : decode cX12_family 26 = .ok (.lconst 0, 1) := by decide +kernel
theorem dX12_family_27 : decode cX12_family 27 = .ok (.ldc2_w 76, 3) := by decide +kernel
theorem dX12_family_30 : decode cX12_family 30 = .ok (.invokestatic 56, 3) := by decide +kernel
theorem dX12_family_33 : decode cX12_family 33 = .ok (.ifCond .ne 10, 3) := by decide +kernel
theorem dX12_family_36 : decode cX12_family 36 = .ok (.aload_n 0, 1) := by decide +kernel
theorem dX12_family_37 : decode cX12_family 37 = .ok (.bipush (-2), 2) := by decide +kernel
theorem dX12_family_39 : decode cX12_family 39 = .ok (.invokevirtual 64, 3) := by decide +kernel
theorem dX12_family_42 : decode cX12_family 42 = .ok (.ireturn, 1) := by decide +kernel
theorem dX12_family_43 : decode cX12_family 43 = .ok (.aload_n 0, 1) := by decide +kernel
theorem dX12_family_44 : decode cX12_family 44 = .ok (.invokevirtual 52, 3) := by decide +kernel
theorem dX12_family_47 : decode cX12_family 47 = .ok (.bipush 6, 2) := by decide +kernel
theorem dX12_family_49 : decode cX12_family 49 = .ok (.if_icmp .ne 8, 3) := by decide +kernel
theorem dX12_family_52 : decode cX12_family 52 = .ok (.aload_n 0, 1) := by decide +kernel
theorem dX12_family_53 : decode cX12_family 53 = .ok (.invokevirtual 78, 3) := by decide +kernel
theorem dX12_family_56 : decode cX12_family 56 = .ok (.ireturn, 1) := by decide +kernel
theorem dX12_family_57 : decode cX12_family 57 = .ok (.aload_n 0, 1) := by decide +kernel
theorem dX12_family_58 : decode cX12_family 58 = .ok (.getfield 7, 3) := by decide +kernel
theorem dX12_family_61 : decode cX12_family 61 = .ok (.iload_n 1, 1) := by decide +kernel
theorem dX12_family_62 : decode cX12_family 62 = .ok (.iload_n 2, 1) := by decide +kernel
theorem dX12_family_63 : decode cX12_family 63 = .ok (.iload_n 3, 1) := by decide +kernel
theorem dX12_family_64 : decode cX12_family 64 = .ok (.invokestatic 81, 3) := by decide +kernel
theorem dX12_family_67 : decode cX12_family 67 = .ok (.aload_n 0, 1) := by decide +kernel
theorem dX12_family_68 : decode cX12_family 68 = .ok (.invokevirtual 52, 3) := by decide +kernel
theorem dX12_family_71 : decode cX12_family 71 = .ok (.iconst 1, 1) := by decide +kernel
theorem dX12_family_72 : decode cX12_family 72 = .ok (.isub, 1) := by decide +kernel
theorem dX12_family_73 : decode cX12_family 73 = .ok (.ireturn, 1) := by decide +kernel
theorem dX12_job_0 : decode cX12_job 0 = .ok (.aload_n 0, 1) := by decide +kernel
theorem dX12_job_1 : decode cX12_job 1 = .ok (.iload_n 1, 1) := by decide +kernel
theorem dX12_job_2 : decode cX12_job 2 = .ok (.invokevirtual 85, 3) := by decide +kernel
theorem dX12_job_5 : decode cX12_job 5 = .ok (.ifCond .eq 15, 3) := by decide +kernel
theorem dX12_job_8 : decode cX12_job 8 = .ok (.iload_n 2, 1) := by decide +kernel
theorem dX12_job_9 : decode cX12_job 9 = .ok (.i2l, 1) := by decide +kernel
theorem dX12_job_10 : decode cX12_job 10 = .ok (.lconst 0, 1) := by decide +kernel
theorem dX12_job_11 : decode cX12_job 11 = .ok (.ldc2_w 72, 3) := by decide +kernel
theorem dX12_job_14 : decode cX12_job 14 = .ok (.invokestatic 56, 3) := by decide +kernel
theorem dX12_job_17 : decode cX12_job 17 = .ok (.ifCond .ne 10, 3) := by decide +kernel
theorem dX12_job_20 : decode cX12_job 20 = .ok (.aload_n 0, 1) := by decide +kernel
theorem dX12_job_21 : decode cX12_job 21 = .ok (.bipush (-2), 2) := by decide +kernel
theorem dX12_job_23 : decode cX12_job 23 = .ok (.invokevirtual 64, 3) := by decide +kernel
theorem dX12_job_26 : decode cX12_job 26 = .ok (.ireturn, 1) := by decide +kernel
theorem dX12_job_27 : decode cX12_job 27 = .ok (.aload_n 0, 1) := by decide +kernel
theorem dX12_job_28 : decode cX12_job 28 = .ok (.iload_n 1, 1) := by decide +kernel
theorem dX12_job_29 : decode cX12_job 29 = .ok (.iconst 3, 1) := by decide +kernel
theorem dX12_job_30 : decode cX12_job 30 = .ok (.invokevirtual 89, 3) := by decide +kernel
theorem dX12_job_33 : decode cX12_job 33 = .ok (.istore_n 3, 1) := by decide +kernel
theorem dX12_job_34 : decode cX12_job 34 = .ok (.aload_n 0, 1) := by decide +kernel
theorem dX12_job_35 : decode cX12_job 35 = .ok (.getfield 7, 3) := by decide +kernel
theorem dX12_job_38 : decode cX12_job 38 = .ok (.bipush 7, 2) := by decide +kernel
theorem dX12_job_40 : decode cX12_job 40 = .ok (.iconst 4, 1) := by decide +kernel
theorem dX12_job_41 : decode cX12_job 41 = .ok (.iload_n 1, 1) := by decide +kernel
theorem dX12_job_42 : decode cX12_job 42 = .ok (.imul, 1) := by decide +kernel
theorem dX12_job_43 : decode cX12_job 43 = .ok (.iadd, 1) := by decide +kernel
theorem dX12_job_44 : decode cX12_job 44 = .ok (.iconst 3, 1) := by decide +kernel
theorem dX12_job_45 : decode cX12_job 45 = .ok (.iadd, 1) := by decide +kernel
theorem dX12_job_46 : decode cX12_job 46 = .ok (.iload_n 2, 1) := by decide +kernel
theorem dX12_job_47 : decode cX12_job 47 = .ok (.iastore, 1) := by decide +kernel
theorem dX12_job_48 : decode cX12_job 48 = .ok (.iload_n 3, 1) := by decide +kernel
theorem dX12_job_49 : decode cX12_job 49 = .ok (.ireturn, 1) := by decide +kernel
theorem dX12_makes_0 : decode cX12_makes 0 = .ok (.iload_n 0, 1) := by decide +kernel
theorem dX12_makes_1 : decode cX12_makes 1 = .ok (.iconst 3, 1) := by decide +kernel
theorem dX12_makes_2 : decode cX12_makes 2 = .ok (.if_icmp .ne 7, 3) := by decide +kernel
theorem dX12_makes_5 : decode cX12_makes 5 = .ok (.iconst 3, 1) := by decide +kernel
theorem dX12_makes_6 : decode cX12_makes 6 = .ok (.goto 4, 3) := by decide +kernel
theorem dX12_makes_9 : decode cX12_makes 9 = .ok (.iconst 1, 1) := by decide +kernel
theorem dX12_makes_10 : decode cX12_makes 10 = .ok (.ireturn, 1) := by decide +kernel
theorem dX12_tends_0 : decode cX12_tends 0 = .ok (.iload_n 0, 1) := by decide +kernel
theorem dX12_tends_1 : decode cX12_tends 1 = .ok (.iconst 2, 1) := by decide +kernel
theorem dX12_tends_2 : decode cX12_tends 2 = .ok (.if_icmp .ne 7, 3) := by decide +kernel
theorem dX12_tends_5 : decode cX12_tends 5 = .ok (.iconst 4, 1) := by decide +kernel
theorem dX12_tends_6 : decode cX12_tends 6 = .ok (.goto 13, 3) := by decide +kernel
theorem dX12_tends_9 : decode cX12_tends 9 = .ok (.iload_n 0, 1) := by decide +kernel
theorem dX12_tends_10 : decode cX12_tends 10 = .ok (.iconst 4, 1) := by decide +kernel
theorem dX12_tends_11 : decode cX12_tends 11 = .ok (.if_icmp .ne 7, 3) := by decide +kernel
theorem dX12_tends_14 : decode cX12_tends 14 = .ok (.iconst 2, 1) := by decide +kernel
theorem dX12_tends_15 : decode cX12_tends 15 = .ok (.goto 4, 3) := by decide +kernel
theorem dX12_tends_18 : decode cX12_tends 18 = .ok (.iconst 1, 1) := by decide +kernel
theorem dX12_tends_19 : decode cX12_tends 19 = .ok (.ireturn, 1) := by decide +kernel
theorem dX12_isNoon_0 : decode cX12_isNoon 0 = .ok (.iload_n 1, 1) := by decide +kernel
theorem dX12_isNoon_1 : decode cX12_isNoon 1 = .ok (.aload_n 0, 1) := by decide +kernel
theorem dX12_isNoon_2 : decode cX12_isNoon 2 = .ok (.getfield 7, 3) := by decide +kernel
theorem dX12_isNoon_5 : decode cX12_isNoon 5 = .ok (.iconst 0, 1) := by decide +kernel
theorem dX12_isNoon_6 : decode cX12_isNoon 6 = .ok (.iaload, 1) := by decide +kernel
theorem dX12_isNoon_7 : decode cX12_isNoon 7 = .ok (.irem, 1) := by decide +kernel
theorem dX12_isNoon_8 : decode cX12_isNoon 8 = .ok (.aload_n 0, 1) := by decide +kernel
theorem dX12_isNoon_9 : decode cX12_isNoon 9 = .ok (.getfield 7, 3) := by decide +kernel
theorem dX12_isNoon_12 : decode cX12_isNoon 12 = .ok (.iconst 0, 1) := by decide +kernel
theorem dX12_isNoon_13 : decode cX12_isNoon 13 = .ok (.iaload, 1) := by decide +kernel
theorem dX12_isNoon_14 : decode cX12_isNoon 14 = .ok (.iconst 1, 1) := by decide +kernel
theorem dX12_isNoon_15 : decode cX12_isNoon 15 = .ok (.isub, 1) := by decide +kernel
theorem dX12_isNoon_16 : decode cX12_isNoon 16 = .ok (.if_icmp .ne 7, 3) := by decide +kernel
theorem dX12_isNoon_19 : decode cX12_isNoon 19 = .ok (.iconst 1, 1) := by decide +kernel
theorem dX12_isNoon_20 : decode cX12_isNoon 20 = .ok (.goto 4, 3) := by decide +kernel
theorem dX12_isNoon_23 : decode cX12_isNoon 23 = .ok (.iconst 0, 1) := by decide +kernel
theorem dX12_isNoon_24 : decode cX12_isNoon 24 = .ok (.ireturn, 1) := by decide +kernel
theorem dX12_eatsOf_0 : decode cX12_eatsOf 0 = .ok (.aload_n 0, 1) := by decide +kernel
theorem dX12_eatsOf_1 : decode cX12_eatsOf 1 = .ok (.iload_n 1, 1) := by decide +kernel
theorem dX12_eatsOf_2 : decode cX12_eatsOf 2 = .ok (.iconst 1, 1) := by decide +kernel
theorem dX12_eatsOf_3 : decode cX12_eatsOf 3 = .ok (.invokevirtual 89, 3) := by decide +kernel
theorem dX12_eatsOf_6 : decode cX12_eatsOf 6 = .ok (.istore_n 3, 1) := by decide +kernel
theorem dX12_eatsOf_7 : decode cX12_eatsOf 7 = .ok (.aload_n 0, 1) := by decide +kernel
theorem dX12_eatsOf_8 : decode cX12_eatsOf 8 = .ok (.iload_n 1, 1) := by decide +kernel
theorem dX12_eatsOf_9 : decode cX12_eatsOf 9 = .ok (.iconst 0, 1) := by decide +kernel
theorem dX12_eatsOf_10 : decode cX12_eatsOf 10 = .ok (.invokevirtual 89, 3) := by decide +kernel
theorem dX12_eatsOf_13 : decode cX12_eatsOf 13 = .ok (.istore 4, 2) := by decide +kernel
theorem dX12_eatsOf_15 : decode cX12_eatsOf 15 = .ok (.iload 4, 2) := by decide +kernel
theorem dX12_eatsOf_17 : decode cX12_eatsOf 17 = .ok (.iconst 3, 1) := by decide +kernel
theorem dX12_eatsOf_18 : decode cX12_eatsOf 18 = .ok (.if_icmp .ne 9, 3) := by decide +kernel
theorem dX12_eatsOf_21 : decode cX12_eatsOf 21 = .ok (.iload_n 3, 1) := by decide +kernel
theorem dX12_eatsOf_22 : decode cX12_eatsOf 22 = .ok (.iconst 1, 1) := by decide +kernel
theorem dX12_eatsOf_23 : decode cX12_eatsOf 23 = .ok (.iadd, 1) := by decide +kernel
theorem dX12_eatsOf_24 : decode cX12_eatsOf 24 = .ok (.goto 26, 3) := by decide +kernel
theorem dX12_eatsOf_27 : decode cX12_eatsOf 27 = .ok (.iload 4, 2) := by decide +kernel
theorem dX12_eatsOf_29 : decode cX12_eatsOf 29 = .ok (.iconst 1, 1) := by decide +kernel
theorem dX12_eatsOf_30 : decode cX12_eatsOf 30 = .ok (.if_icmp .ne 19, 3) := by decide +kernel
theorem dX12_eatsOf_33 : decode cX12_eatsOf 33 = .ok (.aload_n 0, 1) := by decide +kernel
theorem dX12_eatsOf_34 : decode cX12_eatsOf 34 = .ok (.iload_n 2, 1) := by decide +kernel
theorem dX12_eatsOf_35 : decode cX12_eatsOf 35 = .ok (.invokevirtual 93, 3) := by decide +kernel
theorem dX12_eatsOf_38 : decode cX12_eatsOf 38 = .ok (.ifCond .ne 11, 3) := by decide +kernel
theorem dX12_eatsOf_41 : decode cX12_eatsOf 41 = .ok (.iload_n 3, 1) := by decide +kernel
theorem dX12_eatsOf_42 : decode cX12_eatsOf 42 = .ok (.iconst 1, 1) := by decide +kernel
theorem dX12_eatsOf_43 : decode cX12_eatsOf 43 = .ok (.iadd, 1) := by decide +kernel
theorem dX12_eatsOf_44 : decode cX12_eatsOf 44 = .ok (.iconst 2, 1) := by decide +kernel
theorem dX12_eatsOf_45 : decode cX12_eatsOf 45 = .ok (.idiv, 1) := by decide +kernel
theorem dX12_eatsOf_46 : decode cX12_eatsOf 46 = .ok (.goto 4, 3) := by decide +kernel
theorem dX12_eatsOf_49 : decode cX12_eatsOf 49 = .ok (.iload_n 3, 1) := by decide +kernel
theorem dX12_eatsOf_50 : decode cX12_eatsOf 50 = .ok (.ireturn, 1) := by decide +kernel
theorem dX12_put_0 : decode cX12_put 0 = .ok (.aload_n 0, 1) := by decide +kernel
theorem dX12_put_1 : decode cX12_put 1 = .ok (.getfield 7, 3) := by decide +kernel
theorem dX12_put_4 : decode cX12_put 4 = .ok (.iload_n 1, 1) := by decide +kernel
theorem dX12_put_5 : decode cX12_put 5 = .ok (.iaload, 1) := by decide +kernel
theorem dX12_put_6 : decode cX12_put 6 = .ok (.iload_n 2, 1) := by decide +kernel
theorem dX12_put_7 : decode cX12_put 7 = .ok (.iadd, 1) := by decide +kernel
theorem dX12_put_8 : decode cX12_put 8 = .ok (.istore_n 3, 1) := by decide +kernel
theorem dX12_put_9 : decode cX12_put 9 = .ok (.aload_n 0, 1) := by decide +kernel
theorem dX12_put_10 : decode cX12_put 10 = .ok (.getfield 7, 3) := by decide +kernel
theorem dX12_put_13 : decode cX12_put 13 = .ok (.iload_n 1, 1) := by decide +kernel
theorem dX12_put_14 : decode cX12_put 14 = .ok (.iload_n 3, 1) := by decide +kernel
theorem dX12_put_15 : decode cX12_put 15 = .ok (.sipush 9999, 3) := by decide +kernel
theorem dX12_put_18 : decode cX12_put 18 = .ok (.if_icmp .le 9, 3) := by decide +kernel
theorem dX12_put_21 : decode cX12_put 21 = .ok (.sipush 9999, 3) := by decide +kernel
theorem dX12_put_24 : decode cX12_put 24 = .ok (.goto 12, 3) := by decide +kernel
theorem dX12_put_27 : decode cX12_put 27 = .ok (.iload_n 3, 1) := by decide +kernel
theorem dX12_put_28 : decode cX12_put 28 = .ok (.ifCond .ge 7, 3) := by decide +kernel
theorem dX12_put_31 : decode cX12_put 31 = .ok (.iconst 0, 1) := by decide +kernel
theorem dX12_put_32 : decode cX12_put 32 = .ok (.goto 4, 3) := by decide +kernel
theorem dX12_put_35 : decode cX12_put 35 = .ok (.iload_n 3, 1) := by decide +kernel
theorem dX12_put_36 : decode cX12_put 36 = .ok (.iastore, 1) := by decide +kernel
theorem dX12_put_37 : decode cX12_put 37 = .ok (.return_, 1) := by decide +kernel
theorem dX12_teach_0 : decode cX12_teach 0 = .ok (.aload_n 0, 1) := by decide +kernel
theorem dX12_teach_1 : decode cX12_teach 1 = .ok (.iload_n 1, 1) := by decide +kernel
theorem dX12_teach_2 : decode cX12_teach 2 = .ok (.iconst 2, 1) := by decide +kernel
theorem dX12_teach_3 : decode cX12_teach 3 = .ok (.invokevirtual 89, 3) := by decide +kernel
theorem dX12_teach_6 : decode cX12_teach 6 = .ok (.iconst 1, 1) := by decide +kernel
theorem dX12_teach_7 : decode cX12_teach 7 = .ok (.isub, 1) := by decide +kernel
theorem dX12_teach_8 : decode cX12_teach 8 = .ok (.istore_n 2, 1) := by decide +kernel
theorem dX12_teach_9 : decode cX12_teach 9 = .ok (.iconst 0, 1) := by decide +kernel
theorem dX12_teach_10 : decode cX12_teach 10 = .ok (.istore_n 3, 1) := by decide +kernel
theorem dX12_teach_11 : decode cX12_teach 11 = .ok (.iload_n 3, 1) := by decide +kernel
theorem dX12_teach_12 : decode cX12_teach 12 = .ok (.aload_n 0, 1) := by decide +kernel
theorem dX12_teach_13 : decode cX12_teach 13 = .ok (.invokevirtual 52, 3) := by decide +kernel
theorem dX12_teach_16 : decode cX12_teach 16 = .ok (.if_icmp .ge 53, 3) := by decide +kernel
theorem dX12_teach_19 : decode cX12_teach 19 = .ok (.bipush 7, 2) := by decide +kernel
theorem dX12_teach_21 : decode cX12_teach 21 = .ok (.iconst 4, 1) := by decide +kernel
theorem dX12_teach_22 : decode cX12_teach 22 = .ok (.iload_n 3, 1) := by decide +kernel
theorem dX12_teach_23 : decode cX12_teach 23 = .ok (.imul, 1) := by decide +kernel
theorem dX12_teach_24 : decode cX12_teach 24 = .ok (.iadd, 1) := by decide +kernel
theorem dX12_teach_25 : decode cX12_teach 25 = .ok (.iconst 2, 1) := by decide +kernel
theorem dX12_teach_26 : decode cX12_teach 26 = .ok (.iadd, 1) := by decide +kernel
theorem dX12_teach_27 : decode cX12_teach 27 = .ok (.istore 4, 2) := by decide +kernel
theorem dX12_teach_29 : decode cX12_teach 29 = .ok (.aload_n 0, 1) := by decide +kernel
theorem dX12_teach_30 : decode cX12_teach 30 = .ok (.getfield 7, 3) := by decide +kernel
theorem dX12_teach_33 : decode cX12_teach 33 = .ok (.iload 4, 2) := by decide +kernel
theorem dX12_teach_35 : decode cX12_teach 35 = .ok (.iload_n 3, 1) := by decide +kernel
theorem dX12_teach_36 : decode cX12_teach 36 = .ok (.iload_n 1, 1) := by decide +kernel
theorem dX12_teach_37 : decode cX12_teach 37 = .ok (.if_icmp .eq 18, 3) := by decide +kernel
theorem dX12_teach_40 : decode cX12_teach 40 = .ok (.aload_n 0, 1) := by decide +kernel
theorem dX12_teach_41 : decode cX12_teach 41 = .ok (.getfield 7, 3) := by decide +kernel
theorem dX12_teach_44 : decode cX12_teach 44 = .ok (.iload 4, 2) := by decide +kernel
theorem dX12_teach_46 : decode cX12_teach 46 = .ok (.iaload, 1) := by decide +kernel
theorem dX12_teach_47 : decode cX12_teach 47 = .ok (.iload_n 2, 1) := by decide +kernel
theorem dX12_teach_48 : decode cX12_teach 48 = .ok (.if_icmp .ge 7, 3) := by decide +kernel
theorem dX12_teach_51 : decode cX12_teach 51 = .ok (.iload_n 2, 1) := by decide +kernel
theorem dX12_teach_52 : decode cX12_teach 52 = .ok (.goto 10, 3) := by decide +kernel
theorem dX12_teach_55 : decode cX12_teach 55 = .ok (.aload_n 0, 1) := by decide +kernel
theorem dX12_teach_56 : decode cX12_teach 56 = .ok (.getfield 7, 3) := by decide +kernel
theorem dX12_teach_59 : decode cX12_teach 59 = .ok (.iload 4, 2) := by decide +kernel
theorem dX12_teach_61 : decode cX12_teach 61 = .ok (.iaload, 1) := by decide +kernel
theorem dX12_teach_62 : decode cX12_teach 62 = .ok (.iastore, 1) := by decide +kernel
theorem dX12_teach_63 : decode cX12_teach 63 = .ok (.iinc 3 1, 3) := by decide +kernel
theorem dX12_teach_66 : decode cX12_teach 66 = .ok (.goto (-55), 3) := by decide +kernel
theorem dX12_teach_69 : decode cX12_teach 69 = .ok (.return_, 1) := by decide +kernel
theorem dX12_work_0 : decode cX12_work 0 = .ok (.aload_n 0, 1) := by decide +kernel
theorem dX12_work_1 : decode cX12_work 1 = .ok (.iload_n 1, 1) := by decide +kernel
theorem dX12_work_2 : decode cX12_work 2 = .ok (.iconst 0, 1) := by decide +kernel
theorem dX12_work_3 : decode cX12_work 3 = .ok (.invokevirtual 89, 3) := by decide +kernel
theorem dX12_work_6 : decode cX12_work 6 = .ok (.istore_n 2, 1) := by decide +kernel
theorem dX12_work_7 : decode cX12_work 7 = .ok (.iload_n 2, 1) := by decide +kernel
theorem dX12_work_8 : decode cX12_work 8 = .ok (.iconst 1, 1) := by decide +kernel
theorem dX12_work_9 : decode cX12_work 9 = .ok (.if_icmp .ne 16, 3) := by decide +kernel
theorem dX12_work_12 : decode cX12_work 12 = .ok (.aload_n 0, 1) := by decide +kernel
theorem dX12_work_13 : decode cX12_work 13 = .ok (.getfield 7, 3) := by decide +kernel
theorem dX12_work_16 : decode cX12_work 16 = .ok (.iconst 1, 1) := by decide +kernel
theorem dX12_work_17 : decode cX12_work 17 = .ok (.iaload, 1) := by decide +kernel
theorem dX12_work_18 : decode cX12_work 18 = .ok (.iconst 2, 1) := by decide +kernel
theorem dX12_work_19 : decode cX12_work 19 = .ok (.irem, 1) := by decide +kernel
theorem dX12_work_20 : decode cX12_work 20 = .ok (.iconst 1, 1) := by decide +kernel
theorem dX12_work_21 : decode cX12_work 21 = .ok (.if_icmp .ne 4, 3) := by decide +kernel
theorem dX12_work_24 : decode cX12_work 24 = .ok (.return_, 1) := by decide +kernel
theorem dX12_work_25 : decode cX12_work 25 = .ok (.aload_n 0, 1) := by decide +kernel
theorem dX12_work_26 : decode cX12_work 26 = .ok (.iload_n 1, 1) := by decide +kernel
theorem dX12_work_27 : decode cX12_work 27 = .ok (.iconst 3, 1) := by decide +kernel
theorem dX12_work_28 : decode cX12_work 28 = .ok (.invokevirtual 89, 3) := by decide +kernel
theorem dX12_work_31 : decode cX12_work 31 = .ok (.tableswitch 70 1 4 #[29, 37, 49, 61], 29) := by decide +kernel
theorem dX12_work_60 : decode cX12_work 60 = .ok (.aload_n 0, 1) := by decide +kernel
theorem dX12_work_61 : decode cX12_work 61 = .ok (.iload_n 1, 1) := by decide +kernel
theorem dX12_work_62 : decode cX12_work 62 = .ok (.invokevirtual 96, 3) := by decide +kernel
theorem dX12_work_65 : decode cX12_work 65 = .ok (.goto 36, 3) := by decide +kernel
theorem dX12_work_68 : decode cX12_work 68 = .ok (.aload_n 0, 1) := by decide +kernel
theorem dX12_work_69 : decode cX12_work 69 = .ok (.iconst 4, 1) := by decide +kernel
theorem dX12_work_70 : decode cX12_work 70 = .ok (.iload_n 2, 1) := by decide +kernel
theorem dX12_work_71 : decode cX12_work 71 = .ok (.invokestatic 100, 3) := by decide +kernel
theorem dX12_work_74 : decode cX12_work 74 = .ok (.invokevirtual 103, 3) := by decide +kernel
theorem dX12_work_77 : decode cX12_work 77 = .ok (.goto 24, 3) := by decide +kernel
theorem dX12_work_80 : decode cX12_work 80 = .ok (.aload_n 0, 1) := by decide +kernel
theorem dX12_work_81 : decode cX12_work 81 = .ok (.iconst 3, 1) := by decide +kernel
theorem dX12_work_82 : decode cX12_work 82 = .ok (.iload_n 2, 1) := by decide +kernel
theorem dX12_work_83 : decode cX12_work 83 = .ok (.invokestatic 107, 3) := by decide +kernel
theorem dX12_work_86 : decode cX12_work 86 = .ok (.invokevirtual 103, 3) := by decide +kernel
theorem dX12_work_89 : decode cX12_work 89 = .ok (.goto 12, 3) := by decide +kernel
theorem dX12_work_92 : decode cX12_work 92 = .ok (.aload_n 0, 1) := by decide +kernel
theorem dX12_work_93 : decode cX12_work 93 = .ok (.iconst 5, 1) := by decide +kernel
theorem dX12_work_94 : decode cX12_work 94 = .ok (.iconst 3, 1) := by decide +kernel
theorem dX12_work_95 : decode cX12_work 95 = .ok (.invokevirtual 103, 3) := by decide +kernel
theorem dX12_work_98 : decode cX12_work 98 = .ok (.goto 3, 3) := by decide +kernel
theorem dX12_work_101 : decode cX12_work 101 = .ok (.return_, 1) := by decide +kernel
theorem dX12_eat_0 : decode cX12_eat 0 = .ok (.iconst 0, 1) := by decide +kernel
theorem dX12_eat_1 : decode cX12_eat 1 = .ok (.istore_n 1, 1) := by decide +kernel
theorem dX12_eat_2 : decode cX12_eat 2 = .ok (.iconst 0, 1) := by decide +kernel
theorem dX12_eat_3 : decode cX12_eat 3 = .ok (.istore_n 2, 1) := by decide +kernel
theorem dX12_eat_4 : decode cX12_eat 4 = .ok (.iload_n 2, 1) := by decide +kernel
theorem dX12_eat_5 : decode cX12_eat 5 = .ok (.aload_n 0, 1) := by decide +kernel
theorem dX12_eat_6 : decode cX12_eat 6 = .ok (.invokevirtual 52, 3) := by decide +kernel
theorem dX12_eat_9 : decode cX12_eat 9 = .ok (.if_icmp .ge 23, 3) := by decide +kernel
theorem dX12_eat_12 : decode cX12_eat 12 = .ok (.iload_n 1, 1) := by decide +kernel
theorem dX12_eat_13 : decode cX12_eat 13 = .ok (.aload_n 0, 1) := by decide +kernel
theorem dX12_eat_14 : decode cX12_eat 14 = .ok (.iload_n 2, 1) := by decide +kernel
theorem dX12_eat_15 : decode cX12_eat 15 = .ok (.aload_n 0, 1) := by decide +kernel
theorem dX12_eat_16 : decode cX12_eat 16 = .ok (.getfield 7, 3) := by decide +kernel
theorem dX12_eat_19 : decode cX12_eat 19 = .ok (.iconst 1, 1) := by decide +kernel
theorem dX12_eat_20 : decode cX12_eat 20 = .ok (.iaload, 1) := by decide +kernel
theorem dX12_eat_21 : decode cX12_eat 21 = .ok (.invokevirtual 110, 3) := by decide +kernel
theorem dX12_eat_24 : decode cX12_eat 24 = .ok (.iadd, 1) := by decide +kernel
theorem dX12_eat_25 : decode cX12_eat 25 = .ok (.istore_n 1, 1) := by decide +kernel
theorem dX12_eat_26 : decode cX12_eat 26 = .ok (.iinc 2 1, 3) := by decide +kernel
theorem dX12_eat_29 : decode cX12_eat 29 = .ok (.goto (-25), 3) := by decide +kernel
theorem dX12_eat_32 : decode cX12_eat 32 = .ok (.iload_n 1, 1) := by decide +kernel
theorem dX12_eat_33 : decode cX12_eat 33 = .ok (.aload_n 0, 1) := by decide +kernel
theorem dX12_eat_34 : decode cX12_eat 34 = .ok (.getfield 7, 3) := by decide +kernel
theorem dX12_eat_37 : decode cX12_eat 37 = .ok (.iconst 2, 1) := by decide +kernel
theorem dX12_eat_38 : decode cX12_eat 38 = .ok (.iaload, 1) := by decide +kernel
theorem dX12_eat_39 : decode cX12_eat 39 = .ok (.if_icmp .le 14, 3) := by decide +kernel
theorem dX12_eat_42 : decode cX12_eat 42 = .ok (.iload_n 1, 1) := by decide +kernel
theorem dX12_eat_43 : decode cX12_eat 43 = .ok (.aload_n 0, 1) := by decide +kernel
theorem dX12_eat_44 : decode cX12_eat 44 = .ok (.getfield 7, 3) := by decide +kernel
theorem dX12_eat_47 : decode cX12_eat 47 = .ok (.iconst 2, 1) := by decide +kernel
theorem dX12_eat_48 : decode cX12_eat 48 = .ok (.iaload, 1) := by decide +kernel
theorem dX12_eat_49 : decode cX12_eat 49 = .ok (.isub, 1) := by decide +kernel
theorem dX12_eat_50 : decode cX12_eat 50 = .ok (.goto 4, 3) := by decide +kernel
theorem dX12_eat_53 : decode cX12_eat 53 = .ok (.iconst 0, 1) := by decide +kernel
theorem dX12_eat_54 : decode cX12_eat 54 = .ok (.istore_n 2, 1) := by decide +kernel
theorem dX12_eat_55 : decode cX12_eat 55 = .ok (.aload_n 0, 1) := by decide +kernel
theorem dX12_eat_56 : decode cX12_eat 56 = .ok (.getfield 7, 3) := by decide +kernel
theorem dX12_eat_59 : decode cX12_eat 59 = .ok (.bipush 31, 2) := by decide +kernel
theorem dX12_eat_61 : decode cX12_eat 61 = .ok (.dup2, 1) := by decide +kernel
theorem dX12_eat_62 : decode cX12_eat 62 = .ok (.iaload, 1) := by decide +kernel
theorem dX12_eat_63 : decode cX12_eat 63 = .ok (.iload_n 2, 1) := by decide +kernel
theorem dX12_eat_64 : decode cX12_eat 64 = .ok (.iadd, 1) := by decide +kernel
theorem dX12_eat_65 : decode cX12_eat 65 = .ok (.iastore, 1) := by decide +kernel
theorem dX12_eat_66 : decode cX12_eat 66 = .ok (.aload_n 0, 1) := by decide +kernel
theorem dX12_eat_67 : decode cX12_eat 67 = .ok (.iconst 2, 1) := by decide +kernel
theorem dX12_eat_68 : decode cX12_eat 68 = .ok (.iload_n 1, 1) := by decide +kernel
theorem dX12_eat_69 : decode cX12_eat 69 = .ok (.ineg, 1) := by decide +kernel
theorem dX12_eat_70 : decode cX12_eat 70 = .ok (.invokevirtual 103, 3) := by decide +kernel
theorem dX12_eat_73 : decode cX12_eat 73 = .ok (.return_, 1) := by decide +kernel
theorem dX12_freeze_0 : decode cX12_freeze 0 = .ok (.iconst 0, 1) := by decide +kernel
theorem dX12_freeze_1 : decode cX12_freeze 1 = .ok (.istore_n 1, 1) := by decide +kernel
theorem dX12_freeze_2 : decode cX12_freeze 2 = .ok (.iload_n 1, 1) := by decide +kernel
theorem dX12_freeze_3 : decode cX12_freeze 3 = .ok (.aload_n 0, 1) := by decide +kernel
theorem dX12_freeze_4 : decode cX12_freeze 4 = .ok (.invokevirtual 52, 3) := by decide +kernel
theorem dX12_freeze_7 : decode cX12_freeze 7 = .ok (.if_icmp .ge 75, 3) := by decide +kernel
theorem dX12_freeze_10 : decode cX12_freeze 10 = .ok (.bipush 7, 2) := by decide +kernel
theorem dX12_freeze_12 : decode cX12_freeze 12 = .ok (.iconst 4, 1) := by decide +kernel
theorem dX12_freeze_13 : decode cX12_freeze 13 = .ok (.iload_n 1, 1) := by decide +kernel
theorem dX12_freeze_14 : decode cX12_freeze 14 = .ok (.imul, 1) := by decide +kernel
theorem dX12_freeze_15 : decode cX12_freeze 15 = .ok (.iadd, 1) := by decide +kernel
theorem dX12_freeze_16 : decode cX12_freeze 16 = .ok (.iconst 1, 1) := by decide +kernel
theorem dX12_freeze_17 : decode cX12_freeze 17 = .ok (.iadd, 1) := by decide +kernel
theorem dX12_freeze_18 : decode cX12_freeze 18 = .ok (.istore_n 2, 1) := by decide +kernel
theorem dX12_freeze_19 : decode cX12_freeze 19 = .ok (.aload_n 0, 1) := by decide +kernel
theorem dX12_freeze_20 : decode cX12_freeze 20 = .ok (.getfield 7, 3) := by decide +kernel
theorem dX12_freeze_23 : decode cX12_freeze 23 = .ok (.iconst 5, 1) := by decide +kernel
theorem dX12_freeze_24 : decode cX12_freeze 24 = .ok (.iaload, 1) := by decide +kernel
theorem dX12_freeze_25 : decode cX12_freeze 25 = .ok (.ifCond .le 16, 3) := by decide +kernel
theorem dX12_freeze_28 : decode cX12_freeze 28 = .ok (.aload_n 0, 1) := by decide +kernel
theorem dX12_freeze_29 : decode cX12_freeze 29 = .ok (.getfield 7, 3) := by decide +kernel
theorem dX12_freeze_32 : decode cX12_freeze 32 = .ok (.iconst 5, 1) := by decide +kernel
theorem dX12_freeze_33 : decode cX12_freeze 33 = .ok (.dup2, 1) := by decide +kernel
theorem dX12_freeze_34 : decode cX12_freeze 34 = .ok (.iaload, 1) := by decide +kernel
theorem dX12_freeze_35 : decode cX12_freeze 35 = .ok (.iconst 1, 1) := by decide +kernel
theorem dX12_freeze_36 : decode cX12_freeze 36 = .ok (.isub, 1) := by decide +kernel
theorem dX12_freeze_37 : decode cX12_freeze 37 = .ok (.iastore, 1) := by decide +kernel
theorem dX12_freeze_38 : decode cX12_freeze 38 = .ok (.goto 38, 3) := by decide +kernel
theorem dX12_freeze_41 : decode cX12_freeze 41 = .ok (.aload_n 0, 1) := by decide +kernel
theorem dX12_freeze_42 : decode cX12_freeze 42 = .ok (.getfield 7, 3) := by decide +kernel
theorem dX12_freeze_45 : decode cX12_freeze 45 = .ok (.bipush 32, 2) := by decide +kernel
theorem dX12_freeze_47 : decode cX12_freeze 47 = .ok (.dup2, 1) := by decide +kernel
theorem dX12_freeze_48 : decode cX12_freeze 48 = .ok (.iaload, 1) := by decide +kernel
theorem dX12_freeze_49 : decode cX12_freeze 49 = .ok (.iconst 1, 1) := by decide +kernel
theorem dX12_freeze_50 : decode cX12_freeze 50 = .ok (.iadd, 1) := by decide +kernel
theorem dX12_freeze_51 : decode cX12_freeze 51 = .ok (.iastore, 1) := by decide +kernel
theorem dX12_freeze_52 : decode cX12_freeze 52 = .ok (.aload_n 0, 1) := by decide +kernel
theorem dX12_freeze_53 : decode cX12_freeze 53 = .ok (.getfield 7, 3) := by decide +kernel
theorem dX12_freeze_56 : decode cX12_freeze 56 = .ok (.iload_n 2, 1) := by decide +kernel
theorem dX12_freeze_57 : decode cX12_freeze 57 = .ok (.dup2, 1) := by decide +kernel
theorem dX12_freeze_58 : decode cX12_freeze 58 = .ok (.iaload, 1) := by decide +kernel
theorem dX12_freeze_59 : decode cX12_freeze 59 = .ok (.aload_n 0, 1) := by decide +kernel
theorem dX12_freeze_60 : decode cX12_freeze 60 = .ok (.getfield 7, 3) := by decide +kernel
theorem dX12_freeze_63 : decode cX12_freeze 63 = .ok (.iload_n 2, 1) := by decide +kernel
theorem dX12_freeze_64 : decode cX12_freeze 64 = .ok (.iaload, 1) := by decide +kernel
theorem dX12_freeze_65 : decode cX12_freeze 65 = .ok (.iconst 1, 1) := by decide +kernel
theorem dX12_freeze_66 : decode cX12_freeze 66 = .ok (.if_icmp .le 7, 3) := by decide +kernel
theorem dX12_freeze_69 : decode cX12_freeze 69 = .ok (.iconst 1, 1) := by decide +kernel
theorem dX12_freeze_70 : decode cX12_freeze 70 = .ok (.goto 4, 3) := by decide +kernel
theorem dX12_freeze_73 : decode cX12_freeze 73 = .ok (.iconst 0, 1) := by decide +kernel
theorem dX12_freeze_74 : decode cX12_freeze 74 = .ok (.isub, 1) := by decide +kernel
theorem dX12_freeze_75 : decode cX12_freeze 75 = .ok (.iastore, 1) := by decide +kernel
theorem dX12_freeze_76 : decode cX12_freeze 76 = .ok (.iinc 1 1, 3) := by decide +kernel
theorem dX12_freeze_79 : decode cX12_freeze 79 = .ok (.goto (-77), 3) := by decide +kernel
theorem dX12_freeze_82 : decode cX12_freeze 82 = .ok (.return_, 1) := by decide +kernel
theorem dX12_goDusk_0 : decode cX12_goDusk 0 = .ok (.iconst 0, 1) := by decide +kernel
theorem dX12_goDusk_1 : decode cX12_goDusk 1 = .ok (.istore_n 1, 1) := by decide +kernel
theorem dX12_goDusk_2 : decode cX12_goDusk 2 = .ok (.iload_n 1, 1) := by decide +kernel
theorem dX12_goDusk_3 : decode cX12_goDusk 3 = .ok (.aload_n 0, 1) := by decide +kernel
theorem dX12_goDusk_4 : decode cX12_goDusk 4 = .ok (.invokevirtual 52, 3) := by decide +kernel
theorem dX12_goDusk_7 : decode cX12_goDusk 7 = .ok (.if_icmp .ge 14, 3) := by decide +kernel
theorem dX12_goDusk_10 : decode cX12_goDusk 10 = .ok (.aload_n 0, 1) := by decide +kernel
theorem dX12_goDusk_11 : decode cX12_goDusk 11 = .ok (.iload_n 1, 1) := by decide +kernel
theorem dX12_goDusk_12 : decode cX12_goDusk 12 = .ok (.invokevirtual 113, 3) := by decide +kernel
theorem dX12_goDusk_15 : decode cX12_goDusk 15 = .ok (.iinc 1 1, 3) := by decide +kernel
theorem dX12_goDusk_18 : decode cX12_goDusk 18 = .ok (.goto (-16), 3) := by decide +kernel
theorem dX12_goDusk_21 : decode cX12_goDusk 21 = .ok (.aload_n 0, 1) := by decide +kernel
theorem dX12_goDusk_22 : decode cX12_goDusk 22 = .ok (.invokevirtual 116, 3) := by decide +kernel
theorem dX12_goDusk_25 : decode cX12_goDusk 25 = .ok (.aload_n 0, 1) := by decide +kernel
theorem dX12_goDusk_26 : decode cX12_goDusk 26 = .ok (.invokevirtual 119, 3) := by decide +kernel
theorem dX12_goDusk_29 : decode cX12_goDusk 29 = .ok (.aload_n 0, 1) := by decide +kernel
theorem dX12_goDusk_30 : decode cX12_goDusk 30 = .ok (.getfield 7, 3) := by decide +kernel
theorem dX12_goDusk_33 : decode cX12_goDusk 33 = .ok (.iconst 2, 1) := by decide +kernel
theorem dX12_goDusk_34 : decode cX12_goDusk 34 = .ok (.dup2, 1) := by decide +kernel
theorem dX12_goDusk_35 : decode cX12_goDusk 35 = .ok (.iaload, 1) := by decide +kernel
theorem dX12_goDusk_36 : decode cX12_goDusk 36 = .ok (.aload_n 0, 1) := by decide +kernel
theorem dX12_goDusk_37 : decode cX12_goDusk 37 = .ok (.getfield 7, 3) := by decide +kernel
theorem dX12_goDusk_40 : decode cX12_goDusk 40 = .ok (.iconst 2, 1) := by decide +kernel
theorem dX12_goDusk_41 : decode cX12_goDusk 41 = .ok (.iaload, 1) := by decide +kernel
theorem dX12_goDusk_42 : decode cX12_goDusk 42 = .ok (.bipush 10, 2) := by decide +kernel
theorem dX12_goDusk_44 : decode cX12_goDusk 44 = .ok (.idiv, 1) := by decide +kernel
theorem dX12_goDusk_45 : decode cX12_goDusk 45 = .ok (.isub, 1) := by decide +kernel
theorem dX12_goDusk_46 : decode cX12_goDusk 46 = .ok (.iastore, 1) := by decide +kernel
theorem dX12_goDusk_47 : decode cX12_goDusk 47 = .ok (.aload_n 0, 1) := by decide +kernel
theorem dX12_goDusk_48 : decode cX12_goDusk 48 = .ok (.getfield 7, 3) := by decide +kernel
theorem dX12_goDusk_51 : decode cX12_goDusk 51 = .ok (.iconst 3, 1) := by decide +kernel
theorem dX12_goDusk_52 : decode cX12_goDusk 52 = .ok (.dup2, 1) := by decide +kernel
theorem dX12_goDusk_53 : decode cX12_goDusk 53 = .ok (.iaload, 1) := by decide +kernel
theorem dX12_goDusk_54 : decode cX12_goDusk 54 = .ok (.aload_n 0, 1) := by decide +kernel
theorem dX12_goDusk_55 : decode cX12_goDusk 55 = .ok (.getfield 7, 3) := by decide +kernel
theorem dX12_goDusk_58 : decode cX12_goDusk 58 = .ok (.iconst 3, 1) := by decide +kernel
theorem dX12_goDusk_59 : decode cX12_goDusk 59 = .ok (.iaload, 1) := by decide +kernel
theorem dX12_goDusk_60 : decode cX12_goDusk 60 = .ok (.bipush 8, 2) := by decide +kernel
theorem dX12_goDusk_62 : decode cX12_goDusk 62 = .ok (.idiv, 1) := by decide +kernel
theorem dX12_goDusk_63 : decode cX12_goDusk 63 = .ok (.isub, 1) := by decide +kernel
theorem dX12_goDusk_64 : decode cX12_goDusk 64 = .ok (.iastore, 1) := by decide +kernel
theorem dX12_goDusk_65 : decode cX12_goDusk 65 = .ok (.aload_n 0, 1) := by decide +kernel
theorem dX12_goDusk_66 : decode cX12_goDusk 66 = .ok (.iconst 4, 1) := by decide +kernel
theorem dX12_goDusk_67 : decode cX12_goDusk 67 = .ok (.aload_n 0, 1) := by decide +kernel
theorem dX12_goDusk_68 : decode cX12_goDusk 68 = .ok (.getfield 7, 3) := by decide +kernel
theorem dX12_goDusk_71 : decode cX12_goDusk 71 = .ok (.iconst 1, 1) := by decide +kernel
theorem dX12_goDusk_72 : decode cX12_goDusk 72 = .ok (.iaload, 1) := by decide +kernel
theorem dX12_goDusk_73 : decode cX12_goDusk 73 = .ok (.iconst 5, 1) := by decide +kernel
theorem dX12_goDusk_74 : decode cX12_goDusk 74 = .ok (.irem, 1) := by decide +kernel
theorem dX12_goDusk_75 : decode cX12_goDusk 75 = .ok (.iconst 4, 1) := by decide +kernel
theorem dX12_goDusk_76 : decode cX12_goDusk 76 = .ok (.if_icmp .ne 7, 3) := by decide +kernel
theorem dX12_goDusk_79 : decode cX12_goDusk 79 = .ok (.iconst (-1), 1) := by decide +kernel
theorem dX12_goDusk_80 : decode cX12_goDusk 80 = .ok (.goto 4, 3) := by decide +kernel
theorem dX12_goDusk_83 : decode cX12_goDusk 83 = .ok (.iconst 0, 1) := by decide +kernel
theorem dX12_goDusk_84 : decode cX12_goDusk 84 = .ok (.invokevirtual 103, 3) := by decide +kernel
theorem dX12_goDusk_87 : decode cX12_goDusk 87 = .ok (.iconst 0, 1) := by decide +kernel
theorem dX12_goDusk_88 : decode cX12_goDusk 88 = .ok (.istore_n 1, 1) := by decide +kernel
theorem dX12_goDusk_89 : decode cX12_goDusk 89 = .ok (.iload_n 1, 1) := by decide +kernel
theorem dX12_goDusk_90 : decode cX12_goDusk 90 = .ok (.aload_n 0, 1) := by decide +kernel
theorem dX12_goDusk_91 : decode cX12_goDusk 91 = .ok (.invokevirtual 52, 3) := by decide +kernel
theorem dX12_goDusk_94 : decode cX12_goDusk 94 = .ok (.if_icmp .ge 51, 3) := by decide +kernel
theorem dX12_goDusk_97 : decode cX12_goDusk 97 = .ok (.bipush 7, 2) := by decide +kernel
theorem dX12_goDusk_99 : decode cX12_goDusk 99 = .ok (.iconst 4, 1) := by decide +kernel
theorem dX12_goDusk_100 : decode cX12_goDusk 100 = .ok (.iload_n 1, 1) := by decide +kernel
theorem dX12_goDusk_101 : decode cX12_goDusk 101 = .ok (.imul, 1) := by decide +kernel
theorem dX12_goDusk_102 : decode cX12_goDusk 102 = .ok (.iadd, 1) := by decide +kernel
theorem dX12_goDusk_103 : decode cX12_goDusk 103 = .ok (.iconst 2, 1) := by decide +kernel
theorem dX12_goDusk_104 : decode cX12_goDusk 104 = .ok (.iadd, 1) := by decide +kernel
theorem dX12_goDusk_105 : decode cX12_goDusk 105 = .ok (.istore_n 2, 1) := by decide +kernel
theorem dX12_goDusk_106 : decode cX12_goDusk 106 = .ok (.aload_n 0, 1) := by decide +kernel
theorem dX12_goDusk_107 : decode cX12_goDusk 107 = .ok (.getfield 7, 3) := by decide +kernel
theorem dX12_goDusk_110 : decode cX12_goDusk 110 = .ok (.iload_n 2, 1) := by decide +kernel
theorem dX12_goDusk_111 : decode cX12_goDusk 111 = .ok (.dup2, 1) := by decide +kernel
theorem dX12_goDusk_112 : decode cX12_goDusk 112 = .ok (.iaload, 1) := by decide +kernel
theorem dX12_goDusk_113 : decode cX12_goDusk 113 = .ok (.aload_n 0, 1) := by decide +kernel
theorem dX12_goDusk_114 : decode cX12_goDusk 114 = .ok (.iload_n 1, 1) := by decide +kernel
theorem dX12_goDusk_115 : decode cX12_goDusk 115 = .ok (.iconst 0, 1) := by decide +kernel
theorem dX12_goDusk_116 : decode cX12_goDusk 116 = .ok (.invokevirtual 89, 3) := by decide +kernel
theorem dX12_goDusk_119 : decode cX12_goDusk 119 = .ok (.iconst 4, 1) := by decide +kernel
theorem dX12_goDusk_120 : decode cX12_goDusk 120 = .ok (.if_icmp .eq 16, 3) := by decide +kernel
theorem dX12_goDusk_123 : decode cX12_goDusk 123 = .ok (.aload_n 0, 1) := by decide +kernel
theorem dX12_goDusk_124 : decode cX12_goDusk 124 = .ok (.getfield 7, 3) := by decide +kernel
theorem dX12_goDusk_127 : decode cX12_goDusk 127 = .ok (.iload_n 2, 1) := by decide +kernel
theorem dX12_goDusk_128 : decode cX12_goDusk 128 = .ok (.iaload, 1) := by decide +kernel
theorem dX12_goDusk_129 : decode cX12_goDusk 129 = .ok (.ifCond .le 7, 3) := by decide +kernel
theorem dX12_goDusk_132 : decode cX12_goDusk 132 = .ok (.iconst 1, 1) := by decide +kernel
theorem dX12_goDusk_133 : decode cX12_goDusk 133 = .ok (.goto 4, 3) := by decide +kernel
theorem dX12_goDusk_136 : decode cX12_goDusk 136 = .ok (.iconst 0, 1) := by decide +kernel
theorem dX12_goDusk_137 : decode cX12_goDusk 137 = .ok (.isub, 1) := by decide +kernel
theorem dX12_goDusk_138 : decode cX12_goDusk 138 = .ok (.iastore, 1) := by decide +kernel
theorem dX12_goDusk_139 : decode cX12_goDusk 139 = .ok (.iinc 1 1, 3) := by decide +kernel
theorem dX12_goDusk_142 : decode cX12_goDusk 142 = .ok (.goto (-53), 3) := by decide +kernel
theorem dX12_goDusk_145 : decode cX12_goDusk 145 = .ok (.return_, 1) := by decide +kernel
theorem dX12_fieldsNow_0 : decode cX12_fieldsNow 0 = .ok (.iconst 0, 1) := by decide +kernel
theorem dX12_fieldsNow_1 : decode cX12_fieldsNow 1 = .ok (.istore_n 1, 1) := by decide +kernel
theorem dX12_fieldsNow_2 : decode cX12_fieldsNow 2 = .ok (.iconst 0, 1) := by decide +kernel
theorem dX12_fieldsNow_3 : decode cX12_fieldsNow 3 = .ok (.istore_n 2, 1) := by decide +kernel
theorem dX12_fieldsNow_4 : decode cX12_fieldsNow 4 = .ok (.iload_n 2, 1) := by decide +kernel
theorem dX12_fieldsNow_5 : decode cX12_fieldsNow 5 = .ok (.aload_n 0, 1) := by decide +kernel
theorem dX12_fieldsNow_6 : decode cX12_fieldsNow 6 = .ok (.invokevirtual 52, 3) := by decide +kernel
theorem dX12_fieldsNow_9 : decode cX12_fieldsNow 9 = .ok (.if_icmp .ge 31, 3) := by decide +kernel
theorem dX12_fieldsNow_12 : decode cX12_fieldsNow 12 = .ok (.iload_n 1, 1) := by decide +kernel
theorem dX12_fieldsNow_13 : decode cX12_fieldsNow 13 = .ok (.aload_n 0, 1) := by decide +kernel
theorem dX12_fieldsNow_14 : decode cX12_fieldsNow 14 = .ok (.iload_n 2, 1) := by decide +kernel
theorem dX12_fieldsNow_15 : decode cX12_fieldsNow 15 = .ok (.iconst 2, 1) := by decide +kernel
theorem dX12_fieldsNow_16 : decode cX12_fieldsNow 16 = .ok (.invokevirtual 89, 3) := by decide +kernel
theorem dX12_fieldsNow_19 : decode cX12_fieldsNow 19 = .ok (.ifCond .le 12, 3) := by decide +kernel
theorem dX12_fieldsNow_22 : decode cX12_fieldsNow 22 = .ok (.aload_n 0, 1) := by decide +kernel
theorem dX12_fieldsNow_23 : decode cX12_fieldsNow 23 = .ok (.iload_n 2, 1) := by decide +kernel
theorem dX12_fieldsNow_24 : decode cX12_fieldsNow 24 = .ok (.iconst 1, 1) := by decide +kernel
theorem dX12_fieldsNow_25 : decode cX12_fieldsNow 25 = .ok (.invokevirtual 89, 3) := by decide +kernel
theorem dX12_fieldsNow_28 : decode cX12_fieldsNow 28 = .ok (.goto 4, 3) := by decide +kernel
theorem dX12_fieldsNow_31 : decode cX12_fieldsNow 31 = .ok (.iconst 0, 1) := by decide +kernel
theorem dX12_fieldsNow_32 : decode cX12_fieldsNow 32 = .ok (.iadd, 1) := by decide +kernel
theorem dX12_fieldsNow_33 : decode cX12_fieldsNow 33 = .ok (.istore_n 1, 1) := by decide +kernel
theorem dX12_fieldsNow_34 : decode cX12_fieldsNow 34 = .ok (.iinc 2 1, 3) := by decide +kernel
theorem dX12_fieldsNow_37 : decode cX12_fieldsNow 37 = .ok (.goto (-33), 3) := by decide +kernel
theorem dX12_fieldsNow_40 : decode cX12_fieldsNow 40 = .ok (.aload_n 0, 1) := by decide +kernel
theorem dX12_fieldsNow_41 : decode cX12_fieldsNow 41 = .ok (.getfield 7, 3) := by decide +kernel
theorem dX12_fieldsNow_44 : decode cX12_fieldsNow 44 = .ok (.iconst 3, 1) := by decide +kernel
theorem dX12_fieldsNow_45 : decode cX12_fieldsNow 45 = .ok (.iaload, 1) := by decide +kernel
theorem dX12_fieldsNow_46 : decode cX12_fieldsNow 46 = .ok (.iconst 3, 1) := by decide +kernel
theorem dX12_fieldsNow_47 : decode cX12_fieldsNow 47 = .ok (.aload_n 0, 1) := by decide +kernel
theorem dX12_fieldsNow_48 : decode cX12_fieldsNow 48 = .ok (.getfield 7, 3) := by decide +kernel
theorem dX12_fieldsNow_51 : decode cX12_fieldsNow 51 = .ok (.iconst 4, 1) := by decide +kernel
theorem dX12_fieldsNow_52 : decode cX12_fieldsNow 52 = .ok (.iaload, 1) := by decide +kernel
theorem dX12_fieldsNow_53 : decode cX12_fieldsNow 53 = .ok (.imul, 1) := by decide +kernel
theorem dX12_fieldsNow_54 : decode cX12_fieldsNow 54 = .ok (.if_icmp .ge 12, 3) := by decide +kernel
theorem dX12_fieldsNow_57 : decode cX12_fieldsNow 57 = .ok (.aload_n 0, 1) := by decide +kernel
theorem dX12_fieldsNow_58 : decode cX12_fieldsNow 58 = .ok (.getfield 7, 3) := by decide +kernel
theorem dX12_fieldsNow_61 : decode cX12_fieldsNow 61 = .ok (.iconst 3, 1) := by decide +kernel
theorem dX12_fieldsNow_62 : decode cX12_fieldsNow 62 = .ok (.iaload, 1) := by decide +kernel
theorem dX12_fieldsNow_63 : decode cX12_fieldsNow 63 = .ok (.goto 11, 3) := by decide +kernel
theorem dX12_fieldsNow_66 : decode cX12_fieldsNow 66 = .ok (.iconst 3, 1) := by decide +kernel
theorem dX12_fieldsNow_67 : decode cX12_fieldsNow 67 = .ok (.aload_n 0, 1) := by decide +kernel
theorem dX12_fieldsNow_68 : decode cX12_fieldsNow 68 = .ok (.getfield 7, 3) := by decide +kernel
theorem dX12_fieldsNow_71 : decode cX12_fieldsNow 71 = .ok (.iconst 4, 1) := by decide +kernel
theorem dX12_fieldsNow_72 : decode cX12_fieldsNow 72 = .ok (.iaload, 1) := by decide +kernel
theorem dX12_fieldsNow_73 : decode cX12_fieldsNow 73 = .ok (.imul, 1) := by decide +kernel
theorem dX12_fieldsNow_74 : decode cX12_fieldsNow 74 = .ok (.istore_n 2, 1) := by decide +kernel
theorem dX12_fieldsNow_75 : decode cX12_fieldsNow 75 = .ok (.iload_n 1, 1) := by decide +kernel
theorem dX12_fieldsNow_76 : decode cX12_fieldsNow 76 = .ok (.iload_n 2, 1) := by decide +kernel
theorem dX12_fieldsNow_77 : decode cX12_fieldsNow 77 = .ok (.if_icmp .ge 7, 3) := by decide +kernel
theorem dX12_fieldsNow_80 : decode cX12_fieldsNow 80 = .ok (.iload_n 1, 1) := by decide +kernel
theorem dX12_fieldsNow_81 : decode cX12_fieldsNow 81 = .ok (.goto 4, 3) := by decide +kernel
theorem dX12_fieldsNow_84 : decode cX12_fieldsNow 84 = .ok (.iload_n 2, 1) := by decide +kernel
theorem dX12_fieldsNow_85 : decode cX12_fieldsNow 85 = .ok (.ireturn, 1) := by decide +kernel
theorem dX12_goNoon_0 : decode cX12_goNoon 0 = .ok (.iload_n 1, 1) := by decide +kernel
theorem dX12_goNoon_1 : decode cX12_goNoon 1 = .ok (.ifCond .eq 12, 3) := by decide +kernel
theorem dX12_goNoon_4 : decode cX12_goNoon 4 = .ok (.aload_n 0, 1) := by decide +kernel
theorem dX12_goNoon_5 : decode cX12_goNoon 5 = .ok (.invokevirtual 122, 3) := by decide +kernel
theorem dX12_goNoon_8 : decode cX12_goNoon 8 = .ok (.iconst 2, 1) := by decide +kernel
theorem dX12_goNoon_9 : decode cX12_goNoon 9 = .ok (.idiv, 1) := by decide +kernel
theorem dX12_goNoon_10 : decode cX12_goNoon 10 = .ok (.goto 7, 3) := by decide +kernel
theorem dX12_goNoon_13 : decode cX12_goNoon 13 = .ok (.aload_n 0, 1) := by decide +kernel
theorem dX12_goNoon_14 : decode cX12_goNoon 14 = .ok (.invokevirtual 122, 3) := by decide +kernel
theorem dX12_goNoon_17 : decode cX12_goNoon 17 = .ok (.istore_n 2, 1) := by decide +kernel
theorem dX12_goNoon_18 : decode cX12_goNoon 18 = .ok (.aload_n 0, 1) := by decide +kernel
theorem dX12_goNoon_19 : decode cX12_goNoon 19 = .ok (.iconst 2, 1) := by decide +kernel
theorem dX12_goNoon_20 : decode cX12_goNoon 20 = .ok (.iconst 5, 1) := by decide +kernel
theorem dX12_goNoon_21 : decode cX12_goNoon 21 = .ok (.iload_n 2, 1) := by decide +kernel
theorem dX12_goNoon_22 : decode cX12_goNoon 22 = .ok (.imul, 1) := by decide +kernel
theorem dX12_goNoon_23 : decode cX12_goNoon 23 = .ok (.invokevirtual 103, 3) := by decide +kernel
theorem dX12_goNoon_26 : decode cX12_goNoon 26 = .ok (.aload_n 0, 1) := by decide +kernel
theorem dX12_goNoon_27 : decode cX12_goNoon 27 = .ok (.iconst 3, 1) := by decide +kernel
theorem dX12_goNoon_28 : decode cX12_goNoon 28 = .ok (.iload_n 2, 1) := by decide +kernel
theorem dX12_goNoon_29 : decode cX12_goNoon 29 = .ok (.invokevirtual 103, 3) := by decide +kernel
theorem dX12_goNoon_32 : decode cX12_goNoon 32 = .ok (.aload_n 0, 1) := by decide +kernel
theorem dX12_goNoon_33 : decode cX12_goNoon 33 = .ok (.iconst 4, 1) := by decide +kernel
theorem dX12_goNoon_34 : decode cX12_goNoon 34 = .ok (.iload_n 2, 1) := by decide +kernel
theorem dX12_goNoon_35 : decode cX12_goNoon 35 = .ok (.iconst 3, 1) := by decide +kernel
theorem dX12_goNoon_36 : decode cX12_goNoon 36 = .ok (.idiv, 1) := by decide +kernel
theorem dX12_goNoon_37 : decode cX12_goNoon 37 = .ok (.ineg, 1) := by decide +kernel
theorem dX12_goNoon_38 : decode cX12_goNoon 38 = .ok (.invokevirtual 103, 3) := by decide +kernel
theorem dX12_goNoon_41 : decode cX12_goNoon 41 = .ok (.aload_n 0, 1) := by decide +kernel
theorem dX12_goNoon_42 : decode cX12_goNoon 42 = .ok (.iconst 5, 1) := by decide +kernel
theorem dX12_goNoon_43 : decode cX12_goNoon 43 = .ok (.bipush 10, 2) := by decide +kernel
theorem dX12_goNoon_45 : decode cX12_goNoon 45 = .ok (.invokevirtual 103, 3) := by decide +kernel
theorem dX12_goNoon_48 : decode cX12_goNoon 48 = .ok (.aload_n 0, 1) := by decide +kernel
theorem dX12_goNoon_49 : decode cX12_goNoon 49 = .ok (.invokevirtual 116, 3) := by decide +kernel
theorem dX12_goNoon_52 : decode cX12_goNoon 52 = .ok (.iconst 0, 1) := by decide +kernel
theorem dX12_goNoon_53 : decode cX12_goNoon 53 = .ok (.istore_n 3, 1) := by decide +kernel
theorem dX12_goNoon_54 : decode cX12_goNoon 54 = .ok (.iload_n 3, 1) := by decide +kernel
theorem dX12_goNoon_55 : decode cX12_goNoon 55 = .ok (.aload_n 0, 1) := by decide +kernel
theorem dX12_goNoon_56 : decode cX12_goNoon 56 = .ok (.invokevirtual 52, 3) := by decide +kernel
theorem dX12_goNoon_59 : decode cX12_goNoon 59 = .ok (.if_icmp .ge 24, 3) := by decide +kernel
theorem dX12_goNoon_62 : decode cX12_goNoon 62 = .ok (.aload_n 0, 1) := by decide +kernel
theorem dX12_goNoon_63 : decode cX12_goNoon 63 = .ok (.getfield 7, 3) := by decide +kernel
theorem dX12_goNoon_66 : decode cX12_goNoon 66 = .ok (.bipush 7, 2) := by decide +kernel
theorem dX12_goNoon_68 : decode cX12_goNoon 68 = .ok (.iconst 4, 1) := by decide +kernel
theorem dX12_goNoon_69 : decode cX12_goNoon 69 = .ok (.iload_n 3, 1) := by decide +kernel
theorem dX12_goNoon_70 : decode cX12_goNoon 70 = .ok (.imul, 1) := by decide +kernel
theorem dX12_goNoon_71 : decode cX12_goNoon 71 = .ok (.iadd, 1) := by decide +kernel
theorem dX12_goNoon_72 : decode cX12_goNoon 72 = .ok (.iconst 2, 1) := by decide +kernel
theorem dX12_goNoon_73 : decode cX12_goNoon 73 = .ok (.iadd, 1) := by decide +kernel
theorem dX12_goNoon_74 : decode cX12_goNoon 74 = .ok (.bipush 9, 2) := by decide +kernel
theorem dX12_goNoon_76 : decode cX12_goNoon 76 = .ok (.iastore, 1) := by decide +kernel
theorem dX12_goNoon_77 : decode cX12_goNoon 77 = .ok (.iinc 3 1, 3) := by decide +kernel
theorem dX12_goNoon_80 : decode cX12_goNoon 80 = .ok (.goto (-26), 3) := by decide +kernel
theorem dX12_goNoon_83 : decode cX12_goNoon 83 = .ok (.return_, 1) := by decide +kernel
theorem dX12_goYear_0 : decode cX12_goYear 0 = .ok (.aload_n 0, 1) := by decide +kernel
theorem dX12_goYear_1 : decode cX12_goYear 1 = .ok (.getfield 7, 3) := by decide +kernel
theorem dX12_goYear_4 : decode cX12_goYear 4 = .ok (.bipush 31, 2) := by decide +kernel
theorem dX12_goYear_6 : decode cX12_goYear 6 = .ok (.iaload, 1) := by decide +kernel
theorem dX12_goYear_7 : decode cX12_goYear 7 = .ok (.istore_n 2, 1) := by decide +kernel
theorem dX12_goYear_8 : decode cX12_goYear 8 = .ok (.aload_n 0, 1) := by decide +kernel
theorem dX12_goYear_9 : decode cX12_goYear 9 = .ok (.aload_n 0, 1) := by decide +kernel
theorem dX12_goYear_10 : decode cX12_goYear 10 = .ok (.getfield 7, 3) := by decide +kernel
theorem dX12_goYear_13 : decode cX12_goYear 13 = .ok (.iconst 1, 1) := by decide +kernel
theorem dX12_goYear_14 : decode cX12_goYear 14 = .ok (.iaload, 1) := by decide +kernel
theorem dX12_goYear_15 : decode cX12_goYear 15 = .ok (.invokevirtual 93, 3) := by decide +kernel
theorem dX12_goYear_18 : decode cX12_goYear 18 = .ok (.ifCond .eq 11, 3) := by decide +kernel
theorem dX12_goYear_21 : decode cX12_goYear 21 = .ok (.aload_n 0, 1) := by decide +kernel
theorem dX12_goYear_22 : decode cX12_goYear 22 = .ok (.iload_n 1, 1) := by decide +kernel
theorem dX12_goYear_23 : decode cX12_goYear 23 = .ok (.invokevirtual 125, 3) := by decide +kernel
theorem dX12_goYear_26 : decode cX12_goYear 26 = .ok (.goto 7, 3) := by decide +kernel
theorem dX12_goYear_29 : decode cX12_goYear 29 = .ok (.aload_n 0, 1) := by decide +kernel
theorem dX12_goYear_30 : decode cX12_goYear 30 = .ok (.invokevirtual 129, 3) := by decide +kernel
theorem dX12_goYear_33 : decode cX12_goYear 33 = .ok (.aload_n 0, 1) := by decide +kernel
theorem dX12_goYear_34 : decode cX12_goYear 34 = .ok (.getfield 7, 3) := by decide +kernel
theorem dX12_goYear_37 : decode cX12_goYear 37 = .ok (.iconst 1, 1) := by decide +kernel
theorem dX12_goYear_38 : decode cX12_goYear 38 = .ok (.dup2, 1) := by decide +kernel
theorem dX12_goYear_39 : decode cX12_goYear 39 = .ok (.iaload, 1) := by decide +kernel
theorem dX12_goYear_40 : decode cX12_goYear 40 = .ok (.iconst 1, 1) := by decide +kernel
theorem dX12_goYear_41 : decode cX12_goYear 41 = .ok (.iadd, 1) := by decide +kernel
theorem dX12_goYear_42 : decode cX12_goYear 42 = .ok (.iastore, 1) := by decide +kernel
theorem dX12_goYear_43 : decode cX12_goYear 43 = .ok (.aload_n 0, 1) := by decide +kernel
theorem dX12_goYear_44 : decode cX12_goYear 44 = .ok (.getfield 7, 3) := by decide +kernel
theorem dX12_goYear_47 : decode cX12_goYear 47 = .ok (.bipush 31, 2) := by decide +kernel
theorem dX12_goYear_49 : decode cX12_goYear 49 = .ok (.iaload, 1) := by decide +kernel
theorem dX12_goYear_50 : decode cX12_goYear 50 = .ok (.iload_n 2, 1) := by decide +kernel
theorem dX12_goYear_51 : decode cX12_goYear 51 = .ok (.isub, 1) := by decide +kernel
theorem dX12_goYear_52 : decode cX12_goYear 52 = .ok (.ireturn, 1) := by decide +kernel
theorem dX12_keepPast_0 : decode cX12_keepPast 0 = .ok (.aload_n 0, 1) := by decide +kernel
theorem dX12_keepPast_1 : decode cX12_keepPast 1 = .ok (.getfield 7, 3) := by decide +kernel
theorem dX12_keepPast_4 : decode cX12_keepPast 4 = .ok (.bipush 115, 2) := by decide +kernel
theorem dX12_keepPast_6 : decode cX12_keepPast 6 = .ok (.iaload, 1) := by decide +kernel
theorem dX12_keepPast_7 : decode cX12_keepPast 7 = .ok (.bipush 6, 2) := by decide +kernel
theorem dX12_keepPast_9 : decode cX12_keepPast 9 = .ok (.if_icmp .ne 44, 3) := by decide +kernel
theorem dX12_keepPast_12 : decode cX12_keepPast 12 = .ok (.iconst 0, 1) := by decide +kernel
theorem dX12_keepPast_13 : decode cX12_keepPast 13 = .ok (.istore_n 1, 1) := by decide +kernel
theorem dX12_keepPast_14 : decode cX12_keepPast 14 = .ok (.iload_n 1, 1) := by decide +kernel
theorem dX12_keepPast_15 : decode cX12_keepPast 15 = .ok (.bipush 100, 2) := by decide +kernel
theorem dX12_keepPast_17 : decode cX12_keepPast 17 = .ok (.if_icmp .ge 28, 3) := by decide +kernel
theorem dX12_keepPast_20 : decode cX12_keepPast 20 = .ok (.aload_n 0, 1) := by decide +kernel
theorem dX12_keepPast_21 : decode cX12_keepPast 21 = .ok (.getfield 7, 3) := by decide +kernel
theorem dX12_keepPast_24 : decode cX12_keepPast 24 = .ok (.bipush 116, 2) := by decide +kernel
theorem dX12_keepPast_26 : decode cX12_keepPast 26 = .ok (.iload_n 1, 1) := by decide +kernel
theorem dX12_keepPast_27 : decode cX12_keepPast 27 = .ok (.iadd, 1) := by decide +kernel
theorem dX12_keepPast_28 : decode cX12_keepPast 28 = .ok (.aload_n 0, 1) := by decide +kernel
theorem dX12_keepPast_29 : decode cX12_keepPast 29 = .ok (.getfield 7, 3) := by decide +kernel
theorem dX12_keepPast_32 : decode cX12_keepPast 32 = .ok (.sipush 136, 3) := by decide +kernel
theorem dX12_keepPast_35 : decode cX12_keepPast 35 = .ok (.iload_n 1, 1) := by decide +kernel
theorem dX12_keepPast_36 : decode cX12_keepPast 36 = .ok (.iadd, 1) := by decide +kernel
theorem dX12_keepPast_37 : decode cX12_keepPast 37 = .ok (.iaload, 1) := by decide +kernel
theorem dX12_keepPast_38 : decode cX12_keepPast 38 = .ok (.iastore, 1) := by decide +kernel
theorem dX12_keepPast_39 : decode cX12_keepPast 39 = .ok (.iinc 1 1, 3) := by decide +kernel
theorem dX12_keepPast_42 : decode cX12_keepPast 42 = .ok (.goto (-28), 3) := by decide +kernel
theorem dX12_keepPast_45 : decode cX12_keepPast 45 = .ok (.aload_n 0, 1) := by decide +kernel
theorem dX12_keepPast_46 : decode cX12_keepPast 46 = .ok (.getfield 7, 3) := by decide +kernel
theorem dX12_keepPast_49 : decode cX12_keepPast 49 = .ok (.bipush 115, 2) := by decide +kernel
theorem dX12_keepPast_51 : decode cX12_keepPast 51 = .ok (.iconst 5, 1) := by decide +kernel
theorem dX12_keepPast_52 : decode cX12_keepPast 52 = .ok (.iastore, 1) := by decide +kernel
theorem dX12_keepPast_53 : decode cX12_keepPast 53 = .ok (.bipush 116, 2) := by decide +kernel
theorem dX12_keepPast_55 : decode cX12_keepPast 55 = .ok (.bipush 20, 2) := by decide +kernel
theorem dX12_keepPast_57 : decode cX12_keepPast 57 = .ok (.aload_n 0, 1) := by decide +kernel
theorem dX12_keepPast_58 : decode cX12_keepPast 58 = .ok (.getfield 7, 3) := by decide +kernel
theorem dX12_keepPast_61 : decode cX12_keepPast 61 = .ok (.bipush 115, 2) := by decide +kernel
theorem dX12_keepPast_63 : decode cX12_keepPast 63 = .ok (.iaload, 1) := by decide +kernel
theorem dX12_keepPast_64 : decode cX12_keepPast 64 = .ok (.imul, 1) := by decide +kernel
theorem dX12_keepPast_65 : decode cX12_keepPast 65 = .ok (.iadd, 1) := by decide +kernel
theorem dX12_keepPast_66 : decode cX12_keepPast 66 = .ok (.istore_n 1, 1) := by decide +kernel
theorem dX12_keepPast_67 : decode cX12_keepPast 67 = .ok (.iconst 0, 1) := by decide +kernel
theorem dX12_keepPast_68 : decode cX12_keepPast 68 = .ok (.istore_n 2, 1) := by decide +kernel
theorem dX12_keepPast_69 : decode cX12_keepPast 69 = .ok (.iload_n 2, 1) := by decide +kernel
theorem dX12_keepPast_70 : decode cX12_keepPast 70 = .ok (.iconst 4, 1) := by decide +kernel
theorem dX12_keepPast_71 : decode cX12_keepPast 71 = .ok (.if_icmp .ge 25, 3) := by decide +kernel
theorem dX12_keepPast_74 : decode cX12_keepPast 74 = .ok (.aload_n 0, 1) := by decide +kernel
theorem dX12_keepPast_75 : decode cX12_keepPast 75 = .ok (.getfield 7, 3) := by decide +kernel
theorem dX12_keepPast_78 : decode cX12_keepPast 78 = .ok (.iload_n 1, 1) := by decide +kernel
theorem dX12_keepPast_79 : decode cX12_keepPast 79 = .ok (.iload_n 2, 1) := by decide +kernel
theorem dX12_keepPast_80 : decode cX12_keepPast 80 = .ok (.iadd, 1) := by decide +kernel
theorem dX12_keepPast_81 : decode cX12_keepPast 81 = .ok (.aload_n 0, 1) := by decide +kernel
theorem dX12_keepPast_82 : decode cX12_keepPast 82 = .ok (.getfield 7, 3) := by decide +kernel
theorem dX12_keepPast_85 : decode cX12_keepPast 85 = .ok (.iconst 2, 1) := by decide +kernel
theorem dX12_keepPast_86 : decode cX12_keepPast 86 = .ok (.iload_n 2, 1) := by decide +kernel
theorem dX12_keepPast_87 : decode cX12_keepPast 87 = .ok (.iadd, 1) := by decide +kernel
theorem dX12_keepPast_88 : decode cX12_keepPast 88 = .ok (.iaload, 1) := by decide +kernel
theorem dX12_keepPast_89 : decode cX12_keepPast 89 = .ok (.iastore, 1) := by decide +kernel
theorem dX12_keepPast_90 : decode cX12_keepPast 90 = .ok (.iinc 2 1, 3) := by decide +kernel
theorem dX12_keepPast_93 : decode cX12_keepPast 93 = .ok (.goto (-24), 3) := by decide +kernel
theorem dX12_keepPast_96 : decode cX12_keepPast 96 = .ok (.iconst 0, 1) := by decide +kernel
theorem dX12_keepPast_97 : decode cX12_keepPast 97 = .ok (.istore_n 2, 1) := by decide +kernel
theorem dX12_keepPast_98 : decode cX12_keepPast 98 = .ok (.iload_n 2, 1) := by decide +kernel
theorem dX12_keepPast_99 : decode cX12_keepPast 99 = .ok (.bipush 6, 2) := by decide +kernel
theorem dX12_keepPast_101 : decode cX12_keepPast 101 = .ok (.if_icmp .ge 56, 3) := by decide +kernel
theorem dX12_keepPast_104 : decode cX12_keepPast 104 = .ok (.aload_n 0, 1) := by decide +kernel
theorem dX12_keepPast_105 : decode cX12_keepPast 105 = .ok (.getfield 7, 3) := by decide +kernel
theorem dX12_keepPast_108 : decode cX12_keepPast 108 = .ok (.iload_n 1, 1) := by decide +kernel
theorem dX12_keepPast_109 : decode cX12_keepPast 109 = .ok (.iconst 4, 1) := by decide +kernel
theorem dX12_keepPast_110 : decode cX12_keepPast 110 = .ok (.iadd, 1) := by decide +kernel
theorem dX12_keepPast_111 : decode cX12_keepPast 111 = .ok (.iload_n 2, 1) := by decide +kernel
theorem dX12_keepPast_112 : decode cX12_keepPast 112 = .ok (.iadd, 1) := by decide +kernel
theorem dX12_keepPast_113 : decode cX12_keepPast 113 = .ok (.aload_n 0, 1) := by decide +kernel
theorem dX12_keepPast_114 : decode cX12_keepPast 114 = .ok (.getfield 7, 3) := by decide +kernel
theorem dX12_keepPast_117 : decode cX12_keepPast 117 = .ok (.bipush 7, 2) := by decide +kernel
theorem dX12_keepPast_119 : decode cX12_keepPast 119 = .ok (.iconst 4, 1) := by decide +kernel
theorem dX12_keepPast_120 : decode cX12_keepPast 120 = .ok (.iload_n 2, 1) := by decide +kernel
theorem dX12_keepPast_121 : decode cX12_keepPast 121 = .ok (.imul, 1) := by decide +kernel
theorem dX12_keepPast_122 : decode cX12_keepPast 122 = .ok (.iadd, 1) := by decide +kernel
theorem dX12_keepPast_123 : decode cX12_keepPast 123 = .ok (.iconst 1, 1) := by decide +kernel
theorem dX12_keepPast_124 : decode cX12_keepPast 124 = .ok (.iadd, 1) := by decide +kernel
theorem dX12_keepPast_125 : decode cX12_keepPast 125 = .ok (.iaload, 1) := by decide +kernel
theorem dX12_keepPast_126 : decode cX12_keepPast 126 = .ok (.iastore, 1) := by decide +kernel
theorem dX12_keepPast_127 : decode cX12_keepPast 127 = .ok (.aload_n 0, 1) := by decide +kernel
theorem dX12_keepPast_128 : decode cX12_keepPast 128 = .ok (.getfield 7, 3) := by decide +kernel
theorem dX12_keepPast_131 : decode cX12_keepPast 131 = .ok (.iload_n 1, 1) := by decide +kernel
theorem dX12_keepPast_132 : decode cX12_keepPast 132 = .ok (.bipush 10, 2) := by decide +kernel
theorem dX12_keepPast_134 : decode cX12_keepPast 134 = .ok (.iadd, 1) := by decide +kernel
theorem dX12_keepPast_135 : decode cX12_keepPast 135 = .ok (.iload_n 2, 1) := by decide +kernel
theorem dX12_keepPast_136 : decode cX12_keepPast 136 = .ok (.iadd, 1) := by decide +kernel
theorem dX12_keepPast_137 : decode cX12_keepPast 137 = .ok (.aload_n 0, 1) := by decide +kernel
theorem dX12_keepPast_138 : decode cX12_keepPast 138 = .ok (.getfield 7, 3) := by decide +kernel
theorem dX12_keepPast_141 : decode cX12_keepPast 141 = .ok (.bipush 7, 2) := by decide +kernel
theorem dX12_keepPast_143 : decode cX12_keepPast 143 = .ok (.iconst 4, 1) := by decide +kernel
theorem dX12_keepPast_144 : decode cX12_keepPast 144 = .ok (.iload_n 2, 1) := by decide +kernel
theorem dX12_keepPast_145 : decode cX12_keepPast 145 = .ok (.imul, 1) := by decide +kernel
theorem dX12_keepPast_146 : decode cX12_keepPast 146 = .ok (.iadd, 1) := by decide +kernel
theorem dX12_keepPast_147 : decode cX12_keepPast 147 = .ok (.iconst 2, 1) := by decide +kernel
theorem dX12_keepPast_148 : decode cX12_keepPast 148 = .ok (.iadd, 1) := by decide +kernel
theorem dX12_keepPast_149 : decode cX12_keepPast 149 = .ok (.iaload, 1) := by decide +kernel
theorem dX12_keepPast_150 : decode cX12_keepPast 150 = .ok (.iastore, 1) := by decide +kernel
theorem dX12_keepPast_151 : decode cX12_keepPast 151 = .ok (.iinc 2 1, 3) := by decide +kernel
theorem dX12_keepPast_154 : decode cX12_keepPast 154 = .ok (.goto (-56), 3) := by decide +kernel
theorem dX12_keepPast_157 : decode cX12_keepPast 157 = .ok (.aload_n 0, 1) := by decide +kernel
theorem dX12_keepPast_158 : decode cX12_keepPast 158 = .ok (.getfield 7, 3) := by decide +kernel
theorem dX12_keepPast_161 : decode cX12_keepPast 161 = .ok (.iload_n 1, 1) := by decide +kernel
theorem dX12_keepPast_162 : decode cX12_keepPast 162 = .ok (.bipush 16, 2) := by decide +kernel
theorem dX12_keepPast_164 : decode cX12_keepPast 164 = .ok (.iadd, 1) := by decide +kernel
theorem dX12_keepPast_165 : decode cX12_keepPast 165 = .ok (.aload_n 0, 1) := by decide +kernel
theorem dX12_keepPast_166 : decode cX12_keepPast 166 = .ok (.getfield 7, 3) := by decide +kernel
theorem dX12_keepPast_169 : decode cX12_keepPast 169 = .ok (.bipush 31, 2) := by decide +kernel
theorem dX12_keepPast_171 : decode cX12_keepPast 171 = .ok (.iaload, 1) := by decide +kernel
theorem dX12_keepPast_172 : decode cX12_keepPast 172 = .ok (.iastore, 1) := by decide +kernel
theorem dX12_keepPast_173 : decode cX12_keepPast 173 = .ok (.aload_n 0, 1) := by decide +kernel
theorem dX12_keepPast_174 : decode cX12_keepPast 174 = .ok (.getfield 7, 3) := by decide +kernel
theorem dX12_keepPast_177 : decode cX12_keepPast 177 = .ok (.iload_n 1, 1) := by decide +kernel
theorem dX12_keepPast_178 : decode cX12_keepPast 178 = .ok (.bipush 17, 2) := by decide +kernel
theorem dX12_keepPast_180 : decode cX12_keepPast 180 = .ok (.iadd, 1) := by decide +kernel
theorem dX12_keepPast_181 : decode cX12_keepPast 181 = .ok (.aload_n 0, 1) := by decide +kernel
theorem dX12_keepPast_182 : decode cX12_keepPast 182 = .ok (.getfield 7, 3) := by decide +kernel
theorem dX12_keepPast_185 : decode cX12_keepPast 185 = .ok (.bipush 32, 2) := by decide +kernel
theorem dX12_keepPast_187 : decode cX12_keepPast 187 = .ok (.iaload, 1) := by decide +kernel
theorem dX12_keepPast_188 : decode cX12_keepPast 188 = .ok (.iastore, 1) := by decide +kernel
theorem dX12_keepPast_189 : decode cX12_keepPast 189 = .ok (.aload_n 0, 1) := by decide +kernel
theorem dX12_keepPast_190 : decode cX12_keepPast 190 = .ok (.getfield 7, 3) := by decide +kernel
theorem dX12_keepPast_193 : decode cX12_keepPast 193 = .ok (.iload_n 1, 1) := by decide +kernel
theorem dX12_keepPast_194 : decode cX12_keepPast 194 = .ok (.bipush 18, 2) := by decide +kernel
theorem dX12_keepPast_196 : decode cX12_keepPast 196 = .ok (.iadd, 1) := by decide +kernel
theorem dX12_keepPast_197 : decode cX12_keepPast 197 = .ok (.aload_n 0, 1) := by decide +kernel
theorem dX12_keepPast_198 : decode cX12_keepPast 198 = .ok (.getfield 7, 3) := by decide +kernel
theorem dX12_keepPast_201 : decode cX12_keepPast 201 = .ok (.iconst 1, 1) := by decide +kernel
theorem dX12_keepPast_202 : decode cX12_keepPast 202 = .ok (.iaload, 1) := by decide +kernel
theorem dX12_keepPast_203 : decode cX12_keepPast 203 = .ok (.iastore, 1) := by decide +kernel
theorem dX12_keepPast_204 : decode cX12_keepPast 204 = .ok (.aload_n 0, 1) := by decide +kernel
theorem dX12_keepPast_205 : decode cX12_keepPast 205 = .ok (.getfield 7, 3) := by decide +kernel
theorem dX12_keepPast_208 : decode cX12_keepPast 208 = .ok (.iload_n 1, 1) := by decide +kernel
theorem dX12_keepPast_209 : decode cX12_keepPast 209 = .ok (.bipush 19, 2) := by decide +kernel
theorem dX12_keepPast_211 : decode cX12_keepPast 211 = .ok (.iadd, 1) := by decide +kernel
theorem dX12_keepPast_212 : decode cX12_keepPast 212 = .ok (.aload_n 0, 1) := by decide +kernel
theorem dX12_keepPast_213 : decode cX12_keepPast 213 = .ok (.invokevirtual 52, 3) := by decide +kernel
theorem dX12_keepPast_216 : decode cX12_keepPast 216 = .ok (.iastore, 1) := by decide +kernel
theorem dX12_keepPast_217 : decode cX12_keepPast 217 = .ok (.aload_n 0, 1) := by decide +kernel
theorem dX12_keepPast_218 : decode cX12_keepPast 218 = .ok (.getfield 7, 3) := by decide +kernel
theorem dX12_keepPast_221 : decode cX12_keepPast 221 = .ok (.bipush 115, 2) := by decide +kernel
theorem dX12_keepPast_223 : decode cX12_keepPast 223 = .ok (.dup2, 1) := by decide +kernel
theorem dX12_keepPast_224 : decode cX12_keepPast 224 = .ok (.iaload, 1) := by decide +kernel
theorem dX12_keepPast_225 : decode cX12_keepPast 225 = .ok (.iconst 1, 1) := by decide +kernel
theorem dX12_keepPast_226 : decode cX12_keepPast 226 = .ok (.iadd, 1) := by decide +kernel
theorem dX12_keepPast_227 : decode cX12_keepPast 227 = .ok (.iastore, 1) := by decide +kernel
theorem dX12_keepPast_228 : decode cX12_keepPast 228 = .ok (.return_, 1) := by decide +kernel
theorem dX12_pass_0 : decode cX12_pass 0 = .ok (.iload_n 1, 1) := by decide +kernel
theorem dX12_pass_1 : decode cX12_pass 1 = .ok (.i2l, 1) := by decide +kernel
theorem dX12_pass_2 : decode cX12_pass 2 = .ok (.lconst 1, 1) := by decide +kernel
theorem dX12_pass_3 : decode cX12_pass 3 = .ok (.ldc2_w 74, 3) := by decide +kernel
theorem dX12_pass_6 : decode cX12_pass 6 = .ok (.invokestatic 56, 3) := by decide +kernel
theorem dX12_pass_9 : decode cX12_pass 9 = .ok (.ifCond .ne 10, 3) := by decide +kernel
theorem dX12_pass_12 : decode cX12_pass 12 = .ok (.aload_n 0, 1) := by decide +kernel
theorem dX12_pass_13 : decode cX12_pass 13 = .ok (.bipush (-2), 2) := by decide +kernel
theorem dX12_pass_15 : decode cX12_pass 15 = .ok (.invokevirtual 64, 3) := by decide +kernel
theorem dX12_pass_18 : decode cX12_pass 18 = .ok (.ireturn, 1) := by decide +kernel
theorem dX12_pass_19 : decode cX12_pass 19 = .ok (.iconst 0, 1) := by decide +kernel
theorem dX12_pass_20 : decode cX12_pass 20 = .ok (.istore_n 2, 1) := by decide +kernel
theorem dX12_pass_21 : decode cX12_pass 21 = .ok (.iconst 0, 1) := by decide +kernel
theorem dX12_pass_22 : decode cX12_pass 22 = .ok (.istore_n 3, 1) := by decide +kernel
theorem dX12_pass_23 : decode cX12_pass 23 = .ok (.iload_n 3, 1) := by decide +kernel
theorem dX12_pass_24 : decode cX12_pass 24 = .ok (.iload_n 1, 1) := by decide +kernel
theorem dX12_pass_25 : decode cX12_pass 25 = .ok (.if_icmp .ge 21, 3) := by decide +kernel
theorem dX12_pass_28 : decode cX12_pass 28 = .ok (.aload_n 0, 1) := by decide +kernel
theorem dX12_pass_29 : decode cX12_pass 29 = .ok (.invokevirtual 132, 3) := by decide +kernel
theorem dX12_pass_32 : decode cX12_pass 32 = .ok (.iload_n 2, 1) := by decide +kernel
theorem dX12_pass_33 : decode cX12_pass 33 = .ok (.aload_n 0, 1) := by decide +kernel
theorem dX12_pass_34 : decode cX12_pass 34 = .ok (.iconst 0, 1) := by decide +kernel
theorem dX12_pass_35 : decode cX12_pass 35 = .ok (.invokevirtual 135, 3) := by decide +kernel
theorem dX12_pass_38 : decode cX12_pass 38 = .ok (.iadd, 1) := by decide +kernel
theorem dX12_pass_39 : decode cX12_pass 39 = .ok (.istore_n 2, 1) := by decide +kernel
theorem dX12_pass_40 : decode cX12_pass 40 = .ok (.iinc 3 1, 3) := by decide +kernel
theorem dX12_pass_43 : decode cX12_pass 43 = .ok (.goto (-20), 3) := by decide +kernel
theorem dX12_pass_46 : decode cX12_pass 46 = .ok (.iload_n 2, 1) := by decide +kernel
theorem dX12_pass_47 : decode cX12_pass 47 = .ok (.ireturn, 1) := by decide +kernel
theorem dX12_undo_0 : decode cX12_undo 0 = .ok (.aload_n 0, 1) := by decide +kernel
theorem dX12_undo_1 : decode cX12_undo 1 = .ok (.getfield 7, 3) := by decide +kernel
theorem dX12_undo_4 : decode cX12_undo 4 = .ok (.bipush 115, 2) := by decide +kernel
theorem dX12_undo_6 : decode cX12_undo 6 = .ok (.iaload, 1) := by decide +kernel
theorem dX12_undo_7 : decode cX12_undo 7 = .ok (.ifCond .ne 8, 3) := by decide +kernel
theorem dX12_undo_10 : decode cX12_undo 10 = .ok (.aload_n 0, 1) := by decide +kernel
theorem dX12_undo_11 : decode cX12_undo 11 = .ok (.invokevirtual 139, 3) := by decide +kernel
theorem dX12_undo_14 : decode cX12_undo 14 = .ok (.ireturn, 1) := by decide +kernel
theorem dX12_undo_15 : decode cX12_undo 15 = .ok (.aload_n 0, 1) := by decide +kernel
theorem dX12_undo_16 : decode cX12_undo 16 = .ok (.getfield 7, 3) := by decide +kernel
theorem dX12_undo_19 : decode cX12_undo 19 = .ok (.bipush 115, 2) := by decide +kernel
theorem dX12_undo_21 : decode cX12_undo 21 = .ok (.dup2, 1) := by decide +kernel
theorem dX12_undo_22 : decode cX12_undo 22 = .ok (.iaload, 1) := by decide +kernel
theorem dX12_undo_23 : decode cX12_undo 23 = .ok (.iconst 1, 1) := by decide +kernel
theorem dX12_undo_24 : decode cX12_undo 24 = .ok (.isub, 1) := by decide +kernel
theorem dX12_undo_25 : decode cX12_undo 25 = .ok (.iastore, 1) := by decide +kernel
theorem dX12_undo_26 : decode cX12_undo 26 = .ok (.bipush 116, 2) := by decide +kernel
theorem dX12_undo_28 : decode cX12_undo 28 = .ok (.bipush 20, 2) := by decide +kernel
theorem dX12_undo_30 : decode cX12_undo 30 = .ok (.aload_n 0, 1) := by decide +kernel
theorem dX12_undo_31 : decode cX12_undo 31 = .ok (.getfield 7, 3) := by decide +kernel
theorem dX12_undo_34 : decode cX12_undo 34 = .ok (.bipush 115, 2) := by decide +kernel
theorem dX12_undo_36 : decode cX12_undo 36 = .ok (.iaload, 1) := by decide +kernel
theorem dX12_undo_37 : decode cX12_undo 37 = .ok (.imul, 1) := by decide +kernel
theorem dX12_undo_38 : decode cX12_undo 38 = .ok (.iadd, 1) := by decide +kernel
theorem dX12_undo_39 : decode cX12_undo 39 = .ok (.istore_n 1, 1) := by decide +kernel
theorem dX12_undo_40 : decode cX12_undo 40 = .ok (.iconst 0, 1) := by decide +kernel
theorem dX12_undo_41 : decode cX12_undo 41 = .ok (.istore_n 2, 1) := by decide +kernel
theorem dX12_undo_42 : decode cX12_undo 42 = .ok (.iload_n 2, 1) := by decide +kernel
theorem dX12_undo_43 : decode cX12_undo 43 = .ok (.iconst 4, 1) := by decide +kernel
theorem dX12_undo_44 : decode cX12_undo 44 = .ok (.if_icmp .ge 25, 3) := by decide +kernel
theorem dX12_undo_47 : decode cX12_undo 47 = .ok (.aload_n 0, 1) := by decide +kernel
theorem dX12_undo_48 : decode cX12_undo 48 = .ok (.getfield 7, 3) := by decide +kernel
theorem dX12_undo_51 : decode cX12_undo 51 = .ok (.iconst 2, 1) := by decide +kernel
theorem dX12_undo_52 : decode cX12_undo 52 = .ok (.iload_n 2, 1) := by decide +kernel
theorem dX12_undo_53 : decode cX12_undo 53 = .ok (.iadd, 1) := by decide +kernel
theorem dX12_undo_54 : decode cX12_undo 54 = .ok (.aload_n 0, 1) := by decide +kernel
theorem dX12_undo_55 : decode cX12_undo 55 = .ok (.getfield 7, 3) := by decide +kernel
theorem dX12_undo_58 : decode cX12_undo 58 = .ok (.iload_n 1, 1) := by decide +kernel
theorem dX12_undo_59 : decode cX12_undo 59 = .ok (.iload_n 2, 1) := by decide +kernel
theorem dX12_undo_60 : decode cX12_undo 60 = .ok (.iadd, 1) := by decide +kernel
theorem dX12_undo_61 : decode cX12_undo 61 = .ok (.iaload, 1) := by decide +kernel
theorem dX12_undo_62 : decode cX12_undo 62 = .ok (.iastore, 1) := by decide +kernel
theorem dX12_undo_63 : decode cX12_undo 63 = .ok (.iinc 2 1, 3) := by decide +kernel
theorem dX12_undo_66 : decode cX12_undo 66 = .ok (.goto (-24), 3) := by decide +kernel
theorem dX12_undo_69 : decode cX12_undo 69 = .ok (.iconst 0, 1) := by decide +kernel
theorem dX12_undo_70 : decode cX12_undo 70 = .ok (.istore_n 2, 1) := by decide +kernel
theorem dX12_undo_71 : decode cX12_undo 71 = .ok (.iload_n 2, 1) := by decide +kernel
theorem dX12_undo_72 : decode cX12_undo 72 = .ok (.aload_n 0, 1) := by decide +kernel
theorem dX12_undo_73 : decode cX12_undo 73 = .ok (.getfield 7, 3) := by decide +kernel
theorem dX12_undo_76 : decode cX12_undo 76 = .ok (.iload_n 1, 1) := by decide +kernel
theorem dX12_undo_77 : decode cX12_undo 77 = .ok (.bipush 19, 2) := by decide +kernel
theorem dX12_undo_79 : decode cX12_undo 79 = .ok (.iadd, 1) := by decide +kernel
theorem dX12_undo_80 : decode cX12_undo 80 = .ok (.iaload, 1) := by decide +kernel
theorem dX12_undo_81 : decode cX12_undo 81 = .ok (.if_icmp .ge 56, 3) := by decide +kernel
theorem dX12_undo_84 : decode cX12_undo 84 = .ok (.aload_n 0, 1) := by decide +kernel
theorem dX12_undo_85 : decode cX12_undo 85 = .ok (.getfield 7, 3) := by decide +kernel
theorem dX12_undo_88 : decode cX12_undo 88 = .ok (.bipush 7, 2) := by decide +kernel
theorem dX12_undo_90 : decode cX12_undo 90 = .ok (.iconst 4, 1) := by decide +kernel
theorem dX12_undo_91 : decode cX12_undo 91 = .ok (.iload_n 2, 1) := by decide +kernel
theorem dX12_undo_92 : decode cX12_undo 92 = .ok (.imul, 1) := by decide +kernel
theorem dX12_undo_93 : decode cX12_undo 93 = .ok (.iadd, 1) := by decide +kernel
theorem dX12_undo_94 : decode cX12_undo 94 = .ok (.iconst 1, 1) := by decide +kernel
theorem dX12_undo_95 : decode cX12_undo 95 = .ok (.iadd, 1) := by decide +kernel
theorem dX12_undo_96 : decode cX12_undo 96 = .ok (.aload_n 0, 1) := by decide +kernel
theorem dX12_undo_97 : decode cX12_undo 97 = .ok (.getfield 7, 3) := by decide +kernel
theorem dX12_undo_100 : decode cX12_undo 100 = .ok (.iload_n 1, 1) := by decide +kernel
theorem dX12_undo_101 : decode cX12_undo 101 = .ok (.iconst 4, 1) := by decide +kernel
theorem dX12_undo_102 : decode cX12_undo 102 = .ok (.iadd, 1) := by decide +kernel
theorem dX12_undo_103 : decode cX12_undo 103 = .ok (.iload_n 2, 1) := by decide +kernel
theorem dX12_undo_104 : decode cX12_undo 104 = .ok (.iadd, 1) := by decide +kernel
theorem dX12_undo_105 : decode cX12_undo 105 = .ok (.iaload, 1) := by decide +kernel
theorem dX12_undo_106 : decode cX12_undo 106 = .ok (.iastore, 1) := by decide +kernel
theorem dX12_undo_107 : decode cX12_undo 107 = .ok (.aload_n 0, 1) := by decide +kernel
theorem dX12_undo_108 : decode cX12_undo 108 = .ok (.getfield 7, 3) := by decide +kernel
theorem dX12_undo_111 : decode cX12_undo 111 = .ok (.bipush 7, 2) := by decide +kernel
theorem dX12_undo_113 : decode cX12_undo 113 = .ok (.iconst 4, 1) := by decide +kernel
theorem dX12_undo_114 : decode cX12_undo 114 = .ok (.iload_n 2, 1) := by decide +kernel
theorem dX12_undo_115 : decode cX12_undo 115 = .ok (.imul, 1) := by decide +kernel
theorem dX12_undo_116 : decode cX12_undo 116 = .ok (.iadd, 1) := by decide +kernel
theorem dX12_undo_117 : decode cX12_undo 117 = .ok (.iconst 2, 1) := by decide +kernel
theorem dX12_undo_118 : decode cX12_undo 118 = .ok (.iadd, 1) := by decide +kernel
theorem dX12_undo_119 : decode cX12_undo 119 = .ok (.aload_n 0, 1) := by decide +kernel
theorem dX12_undo_120 : decode cX12_undo 120 = .ok (.getfield 7, 3) := by decide +kernel
theorem dX12_undo_123 : decode cX12_undo 123 = .ok (.iload_n 1, 1) := by decide +kernel
theorem dX12_undo_124 : decode cX12_undo 124 = .ok (.bipush 10, 2) := by decide +kernel
theorem dX12_undo_126 : decode cX12_undo 126 = .ok (.iadd, 1) := by decide +kernel
theorem dX12_undo_127 : decode cX12_undo 127 = .ok (.iload_n 2, 1) := by decide +kernel
theorem dX12_undo_128 : decode cX12_undo 128 = .ok (.iadd, 1) := by decide +kernel
theorem dX12_undo_129 : decode cX12_undo 129 = .ok (.iaload, 1) := by decide +kernel
theorem dX12_undo_130 : decode cX12_undo 130 = .ok (.iastore, 1) := by decide +kernel
theorem dX12_undo_131 : decode cX12_undo 131 = .ok (.iinc 2 1, 3) := by decide +kernel
theorem dX12_undo_134 : decode cX12_undo 134 = .ok (.goto (-63), 3) := by decide +kernel
theorem dX12_undo_137 : decode cX12_undo 137 = .ok (.aload_n 0, 1) := by decide +kernel
theorem dX12_undo_138 : decode cX12_undo 138 = .ok (.getfield 7, 3) := by decide +kernel
theorem dX12_undo_141 : decode cX12_undo 141 = .ok (.bipush 31, 2) := by decide +kernel
theorem dX12_undo_143 : decode cX12_undo 143 = .ok (.aload_n 0, 1) := by decide +kernel
theorem dX12_undo_144 : decode cX12_undo 144 = .ok (.getfield 7, 3) := by decide +kernel
theorem dX12_undo_147 : decode cX12_undo 147 = .ok (.iload_n 1, 1) := by decide +kernel
theorem dX12_undo_148 : decode cX12_undo 148 = .ok (.bipush 16, 2) := by decide +kernel
theorem dX12_undo_150 : decode cX12_undo 150 = .ok (.iadd, 1) := by decide +kernel
theorem dX12_undo_151 : decode cX12_undo 151 = .ok (.iaload, 1) := by decide +kernel
theorem dX12_undo_152 : decode cX12_undo 152 = .ok (.iastore, 1) := by decide +kernel
theorem dX12_undo_153 : decode cX12_undo 153 = .ok (.aload_n 0, 1) := by decide +kernel
theorem dX12_undo_154 : decode cX12_undo 154 = .ok (.getfield 7, 3) := by decide +kernel
theorem dX12_undo_157 : decode cX12_undo 157 = .ok (.bipush 32, 2) := by decide +kernel
theorem dX12_undo_159 : decode cX12_undo 159 = .ok (.aload_n 0, 1) := by decide +kernel
theorem dX12_undo_160 : decode cX12_undo 160 = .ok (.getfield 7, 3) := by decide +kernel
theorem dX12_undo_163 : decode cX12_undo 163 = .ok (.iload_n 1, 1) := by decide +kernel
theorem dX12_undo_164 : decode cX12_undo 164 = .ok (.bipush 17, 2) := by decide +kernel
theorem dX12_undo_166 : decode cX12_undo 166 = .ok (.iadd, 1) := by decide +kernel
theorem dX12_undo_167 : decode cX12_undo 167 = .ok (.iaload, 1) := by decide +kernel
theorem dX12_undo_168 : decode cX12_undo 168 = .ok (.iastore, 1) := by decide +kernel
theorem dX12_undo_169 : decode cX12_undo 169 = .ok (.aload_n 0, 1) := by decide +kernel
theorem dX12_undo_170 : decode cX12_undo 170 = .ok (.getfield 7, 3) := by decide +kernel
theorem dX12_undo_173 : decode cX12_undo 173 = .ok (.iconst 1, 1) := by decide +kernel
theorem dX12_undo_174 : decode cX12_undo 174 = .ok (.aload_n 0, 1) := by decide +kernel
theorem dX12_undo_175 : decode cX12_undo 175 = .ok (.getfield 7, 3) := by decide +kernel
theorem dX12_undo_178 : decode cX12_undo 178 = .ok (.iload_n 1, 1) := by decide +kernel
theorem dX12_undo_179 : decode cX12_undo 179 = .ok (.bipush 18, 2) := by decide +kernel
theorem dX12_undo_181 : decode cX12_undo 181 = .ok (.iadd, 1) := by decide +kernel
theorem dX12_undo_182 : decode cX12_undo 182 = .ok (.iaload, 1) := by decide +kernel
theorem dX12_undo_183 : decode cX12_undo 183 = .ok (.iastore, 1) := by decide +kernel
theorem dX12_undo_184 : decode cX12_undo 184 = .ok (.iconst 1, 1) := by decide +kernel
theorem dX12_undo_185 : decode cX12_undo 185 = .ok (.ireturn, 1) := by decide +kernel
theorem dX12_about_0 : decode cX12_about 0 = .ok (.aload_n 0, 1) := by decide +kernel
theorem dX12_about_1 : decode cX12_about 1 = .ok (.iload_n 1, 1) := by decide +kernel
theorem dX12_about_2 : decode cX12_about 2 = .ok (.invokevirtual 85, 3) := by decide +kernel
theorem dX12_about_5 : decode cX12_about 5 = .ok (.ifCond .eq 24, 3) := by decide +kernel
theorem dX12_about_8 : decode cX12_about 8 = .ok (.iload_n 2, 1) := by decide +kernel
theorem dX12_about_9 : decode cX12_about 9 = .ok (.i2l, 1) := by decide +kernel
theorem dX12_about_10 : decode cX12_about 10 = .ok (.lconst 0, 1) := by decide +kernel
theorem dX12_about_11 : decode cX12_about 11 = .ok (.ldc2_w 68, 3) := by decide +kernel
theorem dX12_about_14 : decode cX12_about 14 = .ok (.invokestatic 56, 3) := by decide +kernel
theorem dX12_about_17 : decode cX12_about 17 = .ok (.ifCond .eq 12, 3) := by decide +kernel
theorem dX12_about_20 : decode cX12_about 20 = .ok (.aload_n 0, 1) := by decide +kernel
theorem dX12_about_21 : decode cX12_about 21 = .ok (.iload_n 1, 1) := by decide +kernel
theorem dX12_about_22 : decode cX12_about 22 = .ok (.iload_n 2, 1) := by decide +kernel
theorem dX12_about_23 : decode cX12_about 23 = .ok (.invokevirtual 89, 3) := by decide +kernel
theorem dX12_about_26 : decode cX12_about 26 = .ok (.goto 9, 3) := by decide +kernel
theorem dX12_about_29 : decode cX12_about 29 = .ok (.aload_n 0, 1) := by decide +kernel
theorem dX12_about_30 : decode cX12_about 30 = .ok (.bipush (-2), 2) := by decide +kernel
theorem dX12_about_32 : decode cX12_about 32 = .ok (.invokevirtual 64, 3) := by decide +kernel
theorem dX12_about_35 : decode cX12_about 35 = .ok (.ireturn, 1) := by decide +kernel
theorem dX12_eats_0 : decode cX12_eats 0 = .ok (.aload_n 0, 1) := by decide +kernel
theorem dX12_eats_1 : decode cX12_eats 1 = .ok (.iload_n 1, 1) := by decide +kernel
theorem dX12_eats_2 : decode cX12_eats 2 = .ok (.invokevirtual 85, 3) := by decide +kernel
theorem dX12_eats_5 : decode cX12_eats 5 = .ok (.ifCond .eq 24, 3) := by decide +kernel
theorem dX12_eats_8 : decode cX12_eats 8 = .ok (.iload_n 2, 1) := by decide +kernel
theorem dX12_eats_9 : decode cX12_eats 9 = .ok (.i2l, 1) := by decide +kernel
theorem dX12_eats_10 : decode cX12_eats 10 = .ok (.lconst 0, 1) := by decide +kernel
theorem dX12_eats_11 : decode cX12_eats 11 = .ok (.ldc2_w 70, 3) := by decide +kernel
theorem dX12_eats_14 : decode cX12_eats 14 = .ok (.invokestatic 56, 3) := by decide +kernel
theorem dX12_eats_17 : decode cX12_eats 17 = .ok (.ifCond .eq 12, 3) := by decide +kernel
theorem dX12_eats_20 : decode cX12_eats 20 = .ok (.aload_n 0, 1) := by decide +kernel
theorem dX12_eats_21 : decode cX12_eats 21 = .ok (.iload_n 1, 1) := by decide +kernel
theorem dX12_eats_22 : decode cX12_eats 22 = .ok (.iload_n 2, 1) := by decide +kernel
theorem dX12_eats_23 : decode cX12_eats 23 = .ok (.invokevirtual 110, 3) := by decide +kernel
theorem dX12_eats_26 : decode cX12_eats 26 = .ok (.goto 9, 3) := by decide +kernel
theorem dX12_eats_29 : decode cX12_eats 29 = .ok (.aload_n 0, 1) := by decide +kernel
theorem dX12_eats_30 : decode cX12_eats 30 = .ok (.bipush (-2), 2) := by decide +kernel
theorem dX12_eats_32 : decode cX12_eats 32 = .ok (.invokevirtual 64, 3) := by decide +kernel
theorem dX12_eats_35 : decode cX12_eats 35 = .ok (.ireturn, 1) := by decide +kernel
theorem dX12_fields_0 : decode cX12_fields 0 = .ok (.aload_n 0, 1) := by decide +kernel
theorem dX12_fields_1 : decode cX12_fields 1 = .ok (.invokevirtual 122, 3) := by decide +kernel
theorem dX12_fields_4 : decode cX12_fields 4 = .ok (.ireturn, 1) := by decide +kernel
theorem dX12_start_0 : decode cX12_start 0 = .ok (.iconst 0, 1) := by decide +kernel
theorem dX12_start_1 : decode cX12_start 1 = .ok (.istore_n 1, 1) := by decide +kernel
theorem dX12_start_2 : decode cX12_start 2 = .ok (.iload_n 1, 1) := by decide +kernel
theorem dX12_start_3 : decode cX12_start 3 = .ok (.bipush 33, 2) := by decide +kernel
theorem dX12_start_5 : decode cX12_start 5 = .ok (.if_icmp .ge 21, 3) := by decide +kernel
theorem dX12_start_8 : decode cX12_start 8 = .ok (.aload_n 0, 1) := by decide +kernel
theorem dX12_start_9 : decode cX12_start 9 = .ok (.getfield 27, 3) := by decide +kernel
theorem dX12_start_12 : decode cX12_start 12 = .ok (.iload_n 1, 1) := by decide +kernel
theorem dX12_start_13 : decode cX12_start 13 = .ok (.aload_n 0, 1) := by decide +kernel
theorem dX12_start_14 : decode cX12_start 14 = .ok (.getfield 7, 3) := by decide +kernel
theorem dX12_start_17 : decode cX12_start 17 = .ok (.iload_n 1, 1) := by decide +kernel
theorem dX12_start_18 : decode cX12_start 18 = .ok (.iaload, 1) := by decide +kernel
theorem dX12_start_19 : decode cX12_start 19 = .ok (.iastore, 1) := by decide +kernel
theorem dX12_start_20 : decode cX12_start 20 = .ok (.iinc 1 1, 3) := by decide +kernel
theorem dX12_start_23 : decode cX12_start 23 = .ok (.goto (-21), 3) := by decide +kernel
theorem dX12_start_26 : decode cX12_start 26 = .ok (.return_, 1) := by decide +kernel
theorem dX12_back_0 : decode cX12_back 0 = .ok (.iconst 0, 1) := by decide +kernel
theorem dX12_back_1 : decode cX12_back 1 = .ok (.istore_n 1, 1) := by decide +kernel
theorem dX12_back_2 : decode cX12_back 2 = .ok (.iload_n 1, 1) := by decide +kernel
