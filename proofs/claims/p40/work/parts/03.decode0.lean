theorem dX0_init_0 : decode cX0_init 0 = .ok (.aload_n 0, 1) := by decide +kernel
theorem dX0_init_1 : decode cX0_init 1 = .ok (.invokespecial 3, 3) := by decide +kernel
theorem dX0_init_4 : decode cX0_init 4 = .ok (.aload_n 0, 1) := by decide +kernel
theorem dX0_init_5 : decode cX0_init 5 = .ok (.bipush 8, 2) := by decide +kernel
theorem dX0_init_7 : decode cX0_init 7 = .ok (.newarray .int, 2) := by decide +kernel
theorem dX0_init_9 : decode cX0_init 9 = .ok (.putfield 9, 3) := by decide +kernel
theorem dX0_init_12 : decode cX0_init 12 = .ok (.aload_n 0, 1) := by decide +kernel
theorem dX0_init_13 : decode cX0_init 13 = .ok (.bipush 8, 2) := by decide +kernel
theorem dX0_init_15 : decode cX0_init 15 = .ok (.newarray .int, 2) := by decide +kernel
theorem dX0_init_17 : decode cX0_init 17 = .ok (.putfield 15, 3) := by decide +kernel
theorem dX0_init_20 : decode cX0_init 20 = .ok (.aload_n 0, 1) := by decide +kernel
theorem dX0_init_21 : decode cX0_init 21 = .ok (.bipush 8, 2) := by decide +kernel
theorem dX0_init_23 : decode cX0_init 23 = .ok (.newarray .int, 2) := by decide +kernel
theorem dX0_init_25 : decode cX0_init 25 = .ok (.putfield 18, 3) := by decide +kernel
theorem dX0_init_28 : decode cX0_init 28 = .ok (.aload_n 0, 1) := by decide +kernel
theorem dX0_init_29 : decode cX0_init 29 = .ok (.bipush 10, 2) := by decide +kernel
theorem dX0_init_31 : decode cX0_init 31 = .ok (.newarray .int, 2) := by decide +kernel
theorem dX0_init_33 : decode cX0_init 33 = .ok (.putfield 21, 3) := by decide +kernel
theorem dX0_init_36 : decode cX0_init 36 = .ok (.aload_n 0, 1) := by decide +kernel
theorem dX0_init_37 : decode cX0_init 37 = .ok (.bipush 10, 2) := by decide +kernel
theorem dX0_init_39 : decode cX0_init 39 = .ok (.newarray .int, 2) := by decide +kernel
theorem dX0_init_41 : decode cX0_init 41 = .ok (.putfield 24, 3) := by decide +kernel
theorem dX0_init_44 : decode cX0_init 44 = .ok (.aload_n 0, 1) := by decide +kernel
theorem dX0_init_45 : decode cX0_init 45 = .ok (.bipush 10, 2) := by decide +kernel
theorem dX0_init_47 : decode cX0_init 47 = .ok (.newarray .int, 2) := by decide +kernel
theorem dX0_init_49 : decode cX0_init 49 = .ok (.putfield 27, 3) := by decide +kernel
theorem dX0_init_52 : decode cX0_init 52 = .ok (.aload_n 0, 1) := by decide +kernel
theorem dX0_init_53 : decode cX0_init 53 = .ok (.bipush 24, 2) := by decide +kernel
theorem dX0_init_55 : decode cX0_init 55 = .ok (.newarray .int, 2) := by decide +kernel
theorem dX0_init_57 : decode cX0_init 57 = .ok (.putfield 30, 3) := by decide +kernel
theorem dX0_init_60 : decode cX0_init 60 = .ok (.return_, 1) := by decide +kernel
theorem dX0_begin_0 : decode cX0_begin 0 = .ok (.aload_n 0, 1) := by decide +kernel
theorem dX0_begin_1 : decode cX0_begin 1 = .ok (.iconst 0, 1) := by decide +kernel
theorem dX0_begin_2 : decode cX0_begin 2 = .ok (.putfield 33, 3) := by decide +kernel
theorem dX0_begin_5 : decode cX0_begin 5 = .ok (.aload_n 0, 1) := by decide +kernel
theorem dX0_begin_6 : decode cX0_begin 6 = .ok (.iconst 0, 1) := by decide +kernel
theorem dX0_begin_7 : decode cX0_begin 7 = .ok (.putfield 37, 3) := by decide +kernel
theorem dX0_begin_10 : decode cX0_begin 10 = .ok (.aload_n 0, 1) := by decide +kernel
theorem dX0_begin_11 : decode cX0_begin 11 = .ok (.iconst 0, 1) := by decide +kernel
theorem dX0_begin_12 : decode cX0_begin 12 = .ok (.putfield 40, 3) := by decide +kernel
theorem dX0_begin_15 : decode cX0_begin 15 = .ok (.aload_n 0, 1) := by decide +kernel
theorem dX0_begin_16 : decode cX0_begin 16 = .ok (.iconst 0, 1) := by decide +kernel
theorem dX0_begin_17 : decode cX0_begin 17 = .ok (.putfield 43, 3) := by decide +kernel
theorem dX0_begin_20 : decode cX0_begin 20 = .ok (.return_, 1) := by decide +kernel
theorem dX0_setTo_0 : decode cX0_setTo 0 = .ok (.aload_n 0, 1) := by decide +kernel
theorem dX0_setTo_1 : decode cX0_setTo 1 = .ok (.aload_n 1, 1) := by decide +kernel
theorem dX0_setTo_2 : decode cX0_setTo 2 = .ok (.getfield 33, 3) := by decide +kernel
theorem dX0_setTo_5 : decode cX0_setTo 5 = .ok (.putfield 33, 3) := by decide +kernel
theorem dX0_setTo_8 : decode cX0_setTo 8 = .ok (.aload_n 0, 1) := by decide +kernel
theorem dX0_setTo_9 : decode cX0_setTo 9 = .ok (.aload_n 1, 1) := by decide +kernel
theorem dX0_setTo_10 : decode cX0_setTo 10 = .ok (.getfield 37, 3) := by decide +kernel
theorem dX0_setTo_13 : decode cX0_setTo 13 = .ok (.putfield 37, 3) := by decide +kernel
theorem dX0_setTo_16 : decode cX0_setTo 16 = .ok (.aload_n 0, 1) := by decide +kernel
theorem dX0_setTo_17 : decode cX0_setTo 17 = .ok (.aload_n 1, 1) := by decide +kernel
theorem dX0_setTo_18 : decode cX0_setTo 18 = .ok (.getfield 40, 3) := by decide +kernel
theorem dX0_setTo_21 : decode cX0_setTo 21 = .ok (.putfield 40, 3) := by decide +kernel
theorem dX0_setTo_24 : decode cX0_setTo 24 = .ok (.aload_n 0, 1) := by decide +kernel
theorem dX0_setTo_25 : decode cX0_setTo 25 = .ok (.aload_n 1, 1) := by decide +kernel
theorem dX0_setTo_26 : decode cX0_setTo 26 = .ok (.getfield 43, 3) := by decide +kernel
theorem dX0_setTo_29 : decode cX0_setTo 29 = .ok (.putfield 43, 3) := by decide +kernel
theorem dX0_setTo_32 : decode cX0_setTo 32 = .ok (.aload_n 1, 1) := by decide +kernel
theorem dX0_setTo_33 : decode cX0_setTo 33 = .ok (.getfield 9, 3) := by decide +kernel
theorem dX0_setTo_36 : decode cX0_setTo 36 = .ok (.aload_n 0, 1) := by decide +kernel
theorem dX0_setTo_37 : decode cX0_setTo 37 = .ok (.getfield 9, 3) := by decide +kernel
theorem dX0_setTo_40 : decode cX0_setTo 40 = .ok (.invokestatic 46, 3) := by decide +kernel
theorem dX0_setTo_43 : decode cX0_setTo 43 = .ok (.aload_n 1, 1) := by decide +kernel
theorem dX0_setTo_44 : decode cX0_setTo 44 = .ok (.getfield 15, 3) := by decide +kernel
theorem dX0_setTo_47 : decode cX0_setTo 47 = .ok (.aload_n 0, 1) := by decide +kernel
theorem dX0_setTo_48 : decode cX0_setTo 48 = .ok (.getfield 15, 3) := by decide +kernel
theorem dX0_setTo_51 : decode cX0_setTo 51 = .ok (.invokestatic 46, 3) := by decide +kernel
theorem dX0_setTo_54 : decode cX0_setTo 54 = .ok (.aload_n 1, 1) := by decide +kernel
theorem dX0_setTo_55 : decode cX0_setTo 55 = .ok (.getfield 18, 3) := by decide +kernel
theorem dX0_setTo_58 : decode cX0_setTo 58 = .ok (.aload_n 0, 1) := by decide +kernel
theorem dX0_setTo_59 : decode cX0_setTo 59 = .ok (.getfield 18, 3) := by decide +kernel
theorem dX0_setTo_62 : decode cX0_setTo 62 = .ok (.invokestatic 46, 3) := by decide +kernel
theorem dX0_setTo_65 : decode cX0_setTo 65 = .ok (.aload_n 1, 1) := by decide +kernel
theorem dX0_setTo_66 : decode cX0_setTo 66 = .ok (.getfield 21, 3) := by decide +kernel
theorem dX0_setTo_69 : decode cX0_setTo 69 = .ok (.aload_n 0, 1) := by decide +kernel
theorem dX0_setTo_70 : decode cX0_setTo 70 = .ok (.getfield 21, 3) := by decide +kernel
theorem dX0_setTo_73 : decode cX0_setTo 73 = .ok (.invokestatic 46, 3) := by decide +kernel
theorem dX0_setTo_76 : decode cX0_setTo 76 = .ok (.aload_n 1, 1) := by decide +kernel
theorem dX0_setTo_77 : decode cX0_setTo 77 = .ok (.getfield 24, 3) := by decide +kernel
theorem dX0_setTo_80 : decode cX0_setTo 80 = .ok (.aload_n 0, 1) := by decide +kernel
theorem dX0_setTo_81 : decode cX0_setTo 81 = .ok (.getfield 24, 3) := by decide +kernel
theorem dX0_setTo_84 : decode cX0_setTo 84 = .ok (.invokestatic 46, 3) := by decide +kernel
theorem dX0_setTo_87 : decode cX0_setTo 87 = .ok (.aload_n 1, 1) := by decide +kernel
theorem dX0_setTo_88 : decode cX0_setTo 88 = .ok (.getfield 27, 3) := by decide +kernel
theorem dX0_setTo_91 : decode cX0_setTo 91 = .ok (.aload_n 0, 1) := by decide +kernel
theorem dX0_setTo_92 : decode cX0_setTo 92 = .ok (.getfield 27, 3) := by decide +kernel
theorem dX0_setTo_95 : decode cX0_setTo 95 = .ok (.invokestatic 46, 3) := by decide +kernel
theorem dX0_setTo_98 : decode cX0_setTo 98 = .ok (.aload_n 1, 1) := by decide +kernel
theorem dX0_setTo_99 : decode cX0_setTo 99 = .ok (.getfield 30, 3) := by decide +kernel
theorem dX0_setTo_102 : decode cX0_setTo 102 = .ok (.aload_n 0, 1) := by decide +kernel
theorem dX0_setTo_103 : decode cX0_setTo 103 = .ok (.getfield 30, 3) := by decide +kernel
theorem dX0_setTo_106 : decode cX0_setTo 106 = .ok (.invokestatic 46, 3) := by decide +kernel
theorem dX0_setTo_109 : decode cX0_setTo 109 = .ok (.return_, 1) := by decide +kernel
theorem dX0_addDebt_0 : decode cX0_addDebt 0 = .ok (.aload_n 0, 1) := by decide +kernel
theorem dX0_addDebt_1 : decode cX0_addDebt 1 = .ok (.getfield 9, 3) := by decide +kernel
theorem dX0_addDebt_4 : decode cX0_addDebt 4 = .ok (.aload_n 0, 1) := by decide +kernel
theorem dX0_addDebt_5 : decode cX0_addDebt 5 = .ok (.getfield 37, 3) := by decide +kernel
theorem dX0_addDebt_8 : decode cX0_addDebt 8 = .ok (.iload_n 1, 1) := by decide +kernel
theorem dX0_addDebt_9 : decode cX0_addDebt 9 = .ok (.invokestatic 50, 3) := by decide +kernel
theorem dX0_addDebt_12 : decode cX0_addDebt 12 = .ok (.aload_n 0, 1) := by decide +kernel
theorem dX0_addDebt_13 : decode cX0_addDebt 13 = .ok (.getfield 15, 3) := by decide +kernel
theorem dX0_addDebt_16 : decode cX0_addDebt 16 = .ok (.aload_n 0, 1) := by decide +kernel
theorem dX0_addDebt_17 : decode cX0_addDebt 17 = .ok (.getfield 37, 3) := by decide +kernel
theorem dX0_addDebt_20 : decode cX0_addDebt 20 = .ok (.iload_n 2, 1) := by decide +kernel
theorem dX0_addDebt_21 : decode cX0_addDebt 21 = .ok (.invokestatic 50, 3) := by decide +kernel
theorem dX0_addDebt_24 : decode cX0_addDebt 24 = .ok (.aload_n 0, 1) := by decide +kernel
theorem dX0_addDebt_25 : decode cX0_addDebt 25 = .ok (.getfield 18, 3) := by decide +kernel
theorem dX0_addDebt_28 : decode cX0_addDebt 28 = .ok (.aload_n 0, 1) := by decide +kernel
theorem dX0_addDebt_29 : decode cX0_addDebt 29 = .ok (.getfield 37, 3) := by decide +kernel
theorem dX0_addDebt_32 : decode cX0_addDebt 32 = .ok (.iload_n 3, 1) := by decide +kernel
theorem dX0_addDebt_33 : decode cX0_addDebt 33 = .ok (.invokestatic 50, 3) := by decide +kernel
theorem dX0_addDebt_36 : decode cX0_addDebt 36 = .ok (.aload_n 0, 1) := by decide +kernel
theorem dX0_addDebt_37 : decode cX0_addDebt 37 = .ok (.dup, 1) := by decide +kernel
theorem dX0_addDebt_38 : decode cX0_addDebt 38 = .ok (.getfield 37, 3) := by decide +kernel
theorem dX0_addDebt_41 : decode cX0_addDebt 41 = .ok (.dup_x1, 1) := by decide +kernel
theorem dX0_addDebt_42 : decode cX0_addDebt 42 = .ok (.iconst 1, 1) := by decide +kernel
theorem dX0_addDebt_43 : decode cX0_addDebt 43 = .ok (.iadd, 1) := by decide +kernel
theorem dX0_addDebt_44 : decode cX0_addDebt 44 = .ok (.putfield 37, 3) := by decide +kernel
theorem dX0_addDebt_47 : decode cX0_addDebt 47 = .ok (.ireturn, 1) := by decide +kernel
theorem dX0_balance_0 : decode cX0_balance 0 = .ok (.iconst 0, 1) := by decide +kernel
theorem dX0_balance_1 : decode cX0_balance 1 = .ok (.istore_n 3, 1) := by decide +kernel
theorem dX0_balance_2 : decode cX0_balance 2 = .ok (.iconst 0, 1) := by decide +kernel
theorem dX0_balance_3 : decode cX0_balance 3 = .ok (.istore 4, 2) := by decide +kernel
theorem dX0_balance_5 : decode cX0_balance 5 = .ok (.iload 4, 2) := by decide +kernel
theorem dX0_balance_7 : decode cX0_balance 7 = .ok (.aload_n 0, 1) := by decide +kernel
theorem dX0_balance_8 : decode cX0_balance 8 = .ok (.getfield 37, 3) := by decide +kernel
theorem dX0_balance_11 : decode cX0_balance 11 = .ok (.if_icmp .ge 73, 3) := by decide +kernel
theorem dX0_balance_14 : decode cX0_balance 14 = .ok (.aload_n 0, 1) := by decide +kernel
theorem dX0_balance_15 : decode cX0_balance 15 = .ok (.getfield 18, 3) := by decide +kernel
theorem dX0_balance_18 : decode cX0_balance 18 = .ok (.iload 4, 2) := by decide +kernel
theorem dX0_balance_20 : decode cX0_balance 20 = .ok (.invokestatic 54, 3) := by decide +kernel
theorem dX0_balance_23 : decode cX0_balance 23 = .ok (.istore 5, 2) := by decide +kernel
theorem dX0_balance_25 : decode cX0_balance 25 = .ok (.iload 5, 2) := by decide +kernel
theorem dX0_balance_27 : decode cX0_balance 27 = .ok (.iload 5, 2) := by decide +kernel
theorem dX0_balance_29 : decode cX0_balance 29 = .ok (.aload_n 0, 1) := by decide +kernel
theorem dX0_balance_30 : decode cX0_balance 30 = .ok (.getfield 33, 3) := by decide +kernel
theorem dX0_balance_33 : decode cX0_balance 33 = .ok (.imul, 1) := by decide +kernel
theorem dX0_balance_34 : decode cX0_balance 34 = .ok (.iload_n 2, 1) := by decide +kernel
theorem dX0_balance_35 : decode cX0_balance 35 = .ok (.imul, 1) := by decide +kernel
theorem dX0_balance_36 : decode cX0_balance 36 = .ok (.bipush 100, 2) := by decide +kernel
theorem dX0_balance_38 : decode cX0_balance 38 = .ok (.idiv, 1) := by decide +kernel
theorem dX0_balance_39 : decode cX0_balance 39 = .ok (.iadd, 1) := by decide +kernel
theorem dX0_balance_40 : decode cX0_balance 40 = .ok (.istore 6, 2) := by decide +kernel
theorem dX0_balance_42 : decode cX0_balance 42 = .ok (.aload_n 0, 1) := by decide +kernel
theorem dX0_balance_43 : decode cX0_balance 43 = .ok (.getfield 15, 3) := by decide +kernel
theorem dX0_balance_46 : decode cX0_balance 46 = .ok (.iload 4, 2) := by decide +kernel
theorem dX0_balance_48 : decode cX0_balance 48 = .ok (.invokestatic 54, 3) := by decide +kernel
theorem dX0_balance_51 : decode cX0_balance 51 = .ok (.iload_n 1, 1) := by decide +kernel
theorem dX0_balance_52 : decode cX0_balance 52 = .ok (.if_icmp .ne 8, 3) := by decide +kernel
theorem dX0_balance_55 : decode cX0_balance 55 = .ok (.iload_n 3, 1) := by decide +kernel
theorem dX0_balance_56 : decode cX0_balance 56 = .ok (.iload 6, 2) := by decide +kernel
theorem dX0_balance_58 : decode cX0_balance 58 = .ok (.iadd, 1) := by decide +kernel
theorem dX0_balance_59 : decode cX0_balance 59 = .ok (.istore_n 3, 1) := by decide +kernel
theorem dX0_balance_60 : decode cX0_balance 60 = .ok (.aload_n 0, 1) := by decide +kernel
theorem dX0_balance_61 : decode cX0_balance 61 = .ok (.getfield 9, 3) := by decide +kernel
theorem dX0_balance_64 : decode cX0_balance 64 = .ok (.iload 4, 2) := by decide +kernel
theorem dX0_balance_66 : decode cX0_balance 66 = .ok (.invokestatic 54, 3) := by decide +kernel
theorem dX0_balance_69 : decode cX0_balance 69 = .ok (.iload_n 1, 1) := by decide +kernel
theorem dX0_balance_70 : decode cX0_balance 70 = .ok (.if_icmp .ne 8, 3) := by decide +kernel
theorem dX0_balance_73 : decode cX0_balance 73 = .ok (.iload_n 3, 1) := by decide +kernel
theorem dX0_balance_74 : decode cX0_balance 74 = .ok (.iload 6, 2) := by decide +kernel
theorem dX0_balance_76 : decode cX0_balance 76 = .ok (.isub, 1) := by decide +kernel
theorem dX0_balance_77 : decode cX0_balance 77 = .ok (.istore_n 3, 1) := by decide +kernel
theorem dX0_balance_78 : decode cX0_balance 78 = .ok (.iinc 4 1, 3) := by decide +kernel
theorem dX0_balance_81 : decode cX0_balance 81 = .ok (.goto (-76), 3) := by decide +kernel
theorem dX0_balance_84 : decode cX0_balance 84 = .ok (.iload_n 3, 1) := by decide +kernel
theorem dX0_balance_85 : decode cX0_balance 85 = .ok (.ireturn, 1) := by decide +kernel
theorem dX1_init_0 : decode cX1_init 0 = .ok (.aload_n 0, 1) := by decide +kernel
theorem dX1_init_1 : decode cX1_init 1 = .ok (.invokespecial 1, 3) := by decide +kernel
theorem dX1_init_4 : decode cX1_init 4 = .ok (.aload_n 0, 1) := by decide +kernel
theorem dX1_init_5 : decode cX1_init 5 = .ok (.aload_n 1, 1) := by decide +kernel
theorem dX1_init_6 : decode cX1_init 6 = .ok (.putfield 7, 3) := by decide +kernel
theorem dX1_init_9 : decode cX1_init 9 = .ok (.return_, 1) := by decide +kernel
theorem dX1_setTo_0 : decode cX1_setTo 0 = .ok (.aload_n 0, 1) := by decide +kernel
theorem dX1_setTo_1 : decode cX1_setTo 1 = .ok (.aload_n 1, 1) := by decide +kernel
theorem dX1_setTo_2 : decode cX1_setTo 2 = .ok (.getfield 7, 3) := by decide +kernel
theorem dX1_setTo_5 : decode cX1_setTo 5 = .ok (.putfield 7, 3) := by decide +kernel
theorem dX1_setTo_8 : decode cX1_setTo 8 = .ok (.aload_n 0, 1) := by decide +kernel
theorem dX1_setTo_9 : decode cX1_setTo 9 = .ok (.aload_n 1, 1) := by decide +kernel
theorem dX1_setTo_10 : decode cX1_setTo 10 = .ok (.getfield 13, 3) := by decide +kernel
theorem dX1_setTo_13 : decode cX1_setTo 13 = .ok (.putfield 13, 3) := by decide +kernel
theorem dX1_setTo_16 : decode cX1_setTo 16 = .ok (.aload_n 0, 1) := by decide +kernel
theorem dX1_setTo_17 : decode cX1_setTo 17 = .ok (.aload_n 1, 1) := by decide +kernel
theorem dX1_setTo_18 : decode cX1_setTo 18 = .ok (.getfield 17, 3) := by decide +kernel
theorem dX1_setTo_21 : decode cX1_setTo 21 = .ok (.putfield 17, 3) := by decide +kernel
theorem dX1_setTo_24 : decode cX1_setTo 24 = .ok (.aload_n 0, 1) := by decide +kernel
theorem dX1_setTo_25 : decode cX1_setTo 25 = .ok (.aload_n 1, 1) := by decide +kernel
theorem dX1_setTo_26 : decode cX1_setTo 26 = .ok (.getfield 20, 3) := by decide +kernel
theorem dX1_setTo_29 : decode cX1_setTo 29 = .ok (.putfield 20, 3) := by decide +kernel
theorem dX1_setTo_32 : decode cX1_setTo 32 = .ok (.aload_n 0, 1) := by decide +kernel
theorem dX1_setTo_33 : decode cX1_setTo 33 = .ok (.aload_n 1, 1) := by decide +kernel
theorem dX1_setTo_34 : decode cX1_setTo 34 = .ok (.getfield 23, 3) := by decide +kernel
theorem dX1_setTo_37 : decode cX1_setTo 37 = .ok (.putfield 23, 3) := by decide +kernel
theorem dX1_setTo_40 : decode cX1_setTo 40 = .ok (.return_, 1) := by decide +kernel
theorem dX1_needs_0 : decode cX1_needs 0 = .ok (.aload_n 0, 1) := by decide +kernel
theorem dX1_needs_1 : decode cX1_needs 1 = .ok (.getfield 7, 3) := by decide +kernel
theorem dX1_needs_4 : decode cX1_needs 4 = .ok (.aload_n 0, 1) := by decide +kernel
theorem dX1_needs_5 : decode cX1_needs 5 = .ok (.getfield 17, 3) := by decide +kernel
theorem dX1_needs_8 : decode cX1_needs 8 = .ok (.iload_n 1, 1) := by decide +kernel
theorem dX1_needs_9 : decode cX1_needs 9 = .ok (.invokevirtual 26, 3) := by decide +kernel
theorem dX1_needs_12 : decode cX1_needs 12 = .ok (.ireturn, 1) := by decide +kernel
theorem dX2_init_0 : decode cX2_init 0 = .ok (.aload_n 0, 1) := by decide +kernel
theorem dX2_init_1 : decode cX2_init 1 = .ok (.invokespecial 3, 3) := by decide +kernel
theorem dX2_init_4 : decode cX2_init 4 = .ok (.aload_n 0, 1) := by decide +kernel
theorem dX2_init_5 : decode cX2_init 5 = .ok (.bipush 6, 2) := by decide +kernel
theorem dX2_init_7 : decode cX2_init 7 = .ok (.anewarray 9, 3) := by decide +kernel
theorem dX2_init_10 : decode cX2_init 10 = .ok (.putfield 11, 3) := by decide +kernel
theorem dX2_init_13 : decode cX2_init 13 = .ok (.aload_n 0, 1) := by decide +kernel
theorem dX2_init_14 : decode cX2_init 14 = .ok (.aload_n 1, 1) := by decide +kernel
theorem dX2_init_15 : decode cX2_init 15 = .ok (.putfield 17, 3) := by decide +kernel
theorem dX2_init_18 : decode cX2_init 18 = .ok (.aload_n 0, 1) := by decide +kernel
theorem dX2_init_19 : decode cX2_init 19 = .ok (.new 21, 3) := by decide +kernel
theorem dX2_init_22 : decode cX2_init 22 = .ok (.dup, 1) := by decide +kernel
theorem dX2_init_23 : decode cX2_init 23 = .ok (.invokespecial 23, 3) := by decide +kernel
theorem dX2_init_26 : decode cX2_init 26 = .ok (.putfield 24, 3) := by decide +kernel
theorem dX2_init_29 : decode cX2_init 29 = .ok (.aload_n 0, 1) := by decide +kernel
theorem dX2_init_30 : decode cX2_init 30 = .ok (.new 9, 3) := by decide +kernel
theorem dX2_init_33 : decode cX2_init 33 = .ok (.dup, 1) := by decide +kernel
theorem dX2_init_34 : decode cX2_init 34 = .ok (.aload_n 0, 1) := by decide +kernel
theorem dX2_init_35 : decode cX2_init 35 = .ok (.getfield 24, 3) := by decide +kernel
theorem dX2_init_38 : decode cX2_init 38 = .ok (.invokespecial 28, 3) := by decide +kernel
theorem dX2_init_41 : decode cX2_init 41 = .ok (.putfield 31, 3) := by decide +kernel
theorem dX2_init_44 : decode cX2_init 44 = .ok (.iconst 0, 1) := by decide +kernel
theorem dX2_init_45 : decode cX2_init 45 = .ok (.istore_n 2, 1) := by decide +kernel
theorem dX2_init_46 : decode cX2_init 46 = .ok (.iload_n 2, 1) := by decide +kernel
theorem dX2_init_47 : decode cX2_init 47 = .ok (.aload_n 0, 1) := by decide +kernel
theorem dX2_init_48 : decode cX2_init 48 = .ok (.getfield 11, 3) := by decide +kernel
theorem dX2_init_51 : decode cX2_init 51 = .ok (.arraylength, 1) := by decide +kernel
theorem dX2_init_52 : decode cX2_init 52 = .ok (.if_icmp .ge 26, 3) := by decide +kernel
theorem dX2_init_55 : decode cX2_init 55 = .ok (.aload_n 0, 1) := by decide +kernel
theorem dX2_init_56 : decode cX2_init 56 = .ok (.getfield 11, 3) := by decide +kernel
theorem dX2_init_59 : decode cX2_init 59 = .ok (.iload_n 2, 1) := by decide +kernel
theorem dX2_init_60 : decode cX2_init 60 = .ok (.new 9, 3) := by decide +kernel
theorem dX2_init_63 : decode cX2_init 63 = .ok (.dup, 1) := by decide +kernel
theorem dX2_init_64 : decode cX2_init 64 = .ok (.aload_n 0, 1) := by decide +kernel
theorem dX2_init_65 : decode cX2_init 65 = .ok (.getfield 24, 3) := by decide +kernel
theorem dX2_init_68 : decode cX2_init 68 = .ok (.invokespecial 28, 3) := by decide +kernel
theorem dX2_init_71 : decode cX2_init 71 = .ok (.aastore, 1) := by decide +kernel
theorem dX2_init_72 : decode cX2_init 72 = .ok (.iinc 2 1, 3) := by decide +kernel
theorem dX2_init_75 : decode cX2_init 75 = .ok (.goto (-29), 3) := by decide +kernel
theorem dX2_init_78 : decode cX2_init 78 = .ok (.aload_n 0, 1) := by decide +kernel
theorem dX2_init_79 : decode cX2_init 79 = .ok (.bipush 10, 2) := by decide +kernel
theorem dX2_init_81 : decode cX2_init 81 = .ok (.putfield 35, 3) := by decide +kernel
theorem dX2_init_84 : decode cX2_init 84 = .ok (.return_, 1) := by decide +kernel
theorem dX2_begin_0 : decode cX2_begin 0 = .ok (.aload_n 0, 1) := by decide +kernel
theorem dX2_begin_1 : decode cX2_begin 1 = .ok (.iload_n 1, 1) := by decide +kernel
theorem dX2_begin_2 : decode cX2_begin 2 = .ok (.putfield 35, 3) := by decide +kernel
theorem dX2_begin_5 : decode cX2_begin 5 = .ok (.aload_n 0, 1) := by decide +kernel
theorem dX2_begin_6 : decode cX2_begin 6 = .ok (.iconst 0, 1) := by decide +kernel
theorem dX2_begin_7 : decode cX2_begin 7 = .ok (.putfield 39, 3) := by decide +kernel
theorem dX2_begin_10 : decode cX2_begin 10 = .ok (.aload_n 0, 1) := by decide +kernel
theorem dX2_begin_11 : decode cX2_begin 11 = .ok (.iconst 0, 1) := by decide +kernel
theorem dX2_begin_12 : decode cX2_begin 12 = .ok (.putfield 42, 3) := by decide +kernel
theorem dX2_begin_15 : decode cX2_begin 15 = .ok (.aload_n 0, 1) := by decide +kernel
theorem dX2_begin_16 : decode cX2_begin 16 = .ok (.iconst 0, 1) := by decide +kernel
theorem dX2_begin_17 : decode cX2_begin 17 = .ok (.putfield 45, 3) := by decide +kernel
theorem dX2_begin_20 : decode cX2_begin 20 = .ok (.aload_n 0, 1) := by decide +kernel
theorem dX2_begin_21 : decode cX2_begin 21 = .ok (.iconst 0, 1) := by decide +kernel
theorem dX2_begin_22 : decode cX2_begin 22 = .ok (.putfield 48, 3) := by decide +kernel
theorem dX2_begin_25 : decode cX2_begin 25 = .ok (.aload_n 0, 1) := by decide +kernel
theorem dX2_begin_26 : decode cX2_begin 26 = .ok (.iconst 0, 1) := by decide +kernel
theorem dX2_begin_27 : decode cX2_begin 27 = .ok (.putfield 51, 3) := by decide +kernel
theorem dX2_begin_30 : decode cX2_begin 30 = .ok (.aload_n 0, 1) := by decide +kernel
theorem dX2_begin_31 : decode cX2_begin 31 = .ok (.iconst 0, 1) := by decide +kernel
theorem dX2_begin_32 : decode cX2_begin 32 = .ok (.putfield 54, 3) := by decide +kernel
theorem dX2_begin_35 : decode cX2_begin 35 = .ok (.aload_n 0, 1) := by decide +kernel
theorem dX2_begin_36 : decode cX2_begin 36 = .ok (.iconst 0, 1) := by decide +kernel
theorem dX2_begin_37 : decode cX2_begin 37 = .ok (.putfield 57, 3) := by decide +kernel
theorem dX2_begin_40 : decode cX2_begin 40 = .ok (.aload_n 0, 1) := by decide +kernel
theorem dX2_begin_41 : decode cX2_begin 41 = .ok (.iconst 0, 1) := by decide +kernel
theorem dX2_begin_42 : decode cX2_begin 42 = .ok (.putfield 60, 3) := by decide +kernel
theorem dX2_begin_45 : decode cX2_begin 45 = .ok (.return_, 1) := by decide +kernel
theorem dX2_setTo_0 : decode cX2_setTo 0 = .ok (.aload_n 0, 1) := by decide +kernel
theorem dX2_setTo_1 : decode cX2_setTo 1 = .ok (.aload_n 1, 1) := by decide +kernel
theorem dX2_setTo_2 : decode cX2_setTo 2 = .ok (.getfield 35, 3) := by decide +kernel
theorem dX2_setTo_5 : decode cX2_setTo 5 = .ok (.putfield 35, 3) := by decide +kernel
theorem dX2_setTo_8 : decode cX2_setTo 8 = .ok (.aload_n 0, 1) := by decide +kernel
theorem dX2_setTo_9 : decode cX2_setTo 9 = .ok (.aload_n 1, 1) := by decide +kernel
theorem dX2_setTo_10 : decode cX2_setTo 10 = .ok (.getfield 54, 3) := by decide +kernel
theorem dX2_setTo_13 : decode cX2_setTo 13 = .ok (.putfield 54, 3) := by decide +kernel
theorem dX2_setTo_16 : decode cX2_setTo 16 = .ok (.iconst 0, 1) := by decide +kernel
theorem dX2_setTo_17 : decode cX2_setTo 17 = .ok (.istore_n 2, 1) := by decide +kernel
theorem dX2_setTo_18 : decode cX2_setTo 18 = .ok (.iload_n 2, 1) := by decide +kernel
theorem dX2_setTo_19 : decode cX2_setTo 19 = .ok (.aload_n 0, 1) := by decide +kernel
theorem dX2_setTo_20 : decode cX2_setTo 20 = .ok (.getfield 54, 3) := by decide +kernel
theorem dX2_setTo_23 : decode cX2_setTo 23 = .ok (.if_icmp .ge 22, 3) := by decide +kernel
theorem dX2_setTo_26 : decode cX2_setTo 26 = .ok (.aload_n 0, 1) := by decide +kernel
theorem dX2_setTo_27 : decode cX2_setTo 27 = .ok (.iload_n 2, 1) := by decide +kernel
theorem dX2_setTo_28 : decode cX2_setTo 28 = .ok (.invokevirtual 63, 3) := by decide +kernel
theorem dX2_setTo_31 : decode cX2_setTo 31 = .ok (.aload_n 1, 1) := by decide +kernel
theorem dX2_setTo_32 : decode cX2_setTo 32 = .ok (.iload_n 2, 1) := by decide +kernel
theorem dX2_setTo_33 : decode cX2_setTo 33 = .ok (.invokevirtual 63, 3) := by decide +kernel
theorem dX2_setTo_36 : decode cX2_setTo 36 = .ok (.invokevirtual 67, 3) := by decide +kernel
theorem dX2_setTo_39 : decode cX2_setTo 39 = .ok (.iinc 2 1, 3) := by decide +kernel
theorem dX2_setTo_42 : decode cX2_setTo 42 = .ok (.goto (-24), 3) := by decide +kernel
theorem dX2_setTo_45 : decode cX2_setTo 45 = .ok (.aload_n 0, 1) := by decide +kernel
theorem dX2_setTo_46 : decode cX2_setTo 46 = .ok (.aload_n 1, 1) := by decide +kernel
theorem dX2_setTo_47 : decode cX2_setTo 47 = .ok (.invokevirtual 71, 3) := by decide +kernel
theorem dX2_setTo_50 : decode cX2_setTo 50 = .ok (.return_, 1) := by decide +kernel
theorem dX2_goBackTo_0 : decode cX2_goBackTo 0 = .ok (.iconst 0, 1) := by decide +kernel
theorem dX2_goBackTo_1 : decode cX2_goBackTo 1 = .ok (.istore_n 2, 1) := by decide +kernel
theorem dX2_goBackTo_2 : decode cX2_goBackTo 2 = .ok (.iload_n 2, 1) := by decide +kernel
theorem dX2_goBackTo_3 : decode cX2_goBackTo 3 = .ok (.aload_n 1, 1) := by decide +kernel
theorem dX2_goBackTo_4 : decode cX2_goBackTo 4 = .ok (.getfield 54, 3) := by decide +kernel
theorem dX2_goBackTo_7 : decode cX2_goBackTo 7 = .ok (.if_icmp .ge 40, 3) := by decide +kernel
theorem dX2_goBackTo_10 : decode cX2_goBackTo 10 = .ok (.aload_n 0, 1) := by decide +kernel
theorem dX2_goBackTo_11 : decode cX2_goBackTo 11 = .ok (.iload_n 2, 1) := by decide +kernel
theorem dX2_goBackTo_12 : decode cX2_goBackTo 12 = .ok (.invokevirtual 63, 3) := by decide +kernel
theorem dX2_goBackTo_15 : decode cX2_goBackTo 15 = .ok (.astore_n 3, 1) := by decide +kernel
theorem dX2_goBackTo_16 : decode cX2_goBackTo 16 = .ok (.aload_n 1, 1) := by decide +kernel
theorem dX2_goBackTo_17 : decode cX2_goBackTo 17 = .ok (.iload_n 2, 1) := by decide +kernel
theorem dX2_goBackTo_18 : decode cX2_goBackTo 18 = .ok (.invokevirtual 63, 3) := by decide +kernel
theorem dX2_goBackTo_21 : decode cX2_goBackTo 21 = .ok (.astore 4, 2) := by decide +kernel
theorem dX2_goBackTo_23 : decode cX2_goBackTo 23 = .ok (.aload_n 3, 1) := by decide +kernel
theorem dX2_goBackTo_24 : decode cX2_goBackTo 24 = .ok (.aload 4, 2) := by decide +kernel
theorem dX2_goBackTo_26 : decode cX2_goBackTo 26 = .ok (.getfield 75, 3) := by decide +kernel
theorem dX2_goBackTo_29 : decode cX2_goBackTo 29 = .ok (.putfield 75, 3) := by decide +kernel
theorem dX2_goBackTo_32 : decode cX2_goBackTo 32 = .ok (.aload_n 3, 1) := by decide +kernel
theorem dX2_goBackTo_33 : decode cX2_goBackTo 33 = .ok (.aload 4, 2) := by decide +kernel
theorem dX2_goBackTo_35 : decode cX2_goBackTo 35 = .ok (.getfield 78, 3) := by decide +kernel
theorem dX2_goBackTo_38 : decode cX2_goBackTo 38 = .ok (.putfield 78, 3) := by decide +kernel
theorem dX2_goBackTo_41 : decode cX2_goBackTo 41 = .ok (.iinc 2 1, 3) := by decide +kernel
theorem dX2_goBackTo_44 : decode cX2_goBackTo 44 = .ok (.goto (-42), 3) := by decide +kernel
theorem dX2_goBackTo_47 : decode cX2_goBackTo 47 = .ok (.aload_n 0, 1) := by decide +kernel
theorem dX2_goBackTo_48 : decode cX2_goBackTo 48 = .ok (.aload_n 1, 1) := by decide +kernel
theorem dX2_goBackTo_49 : decode cX2_goBackTo 49 = .ok (.invokevirtual 71, 3) := by decide +kernel
theorem dX2_goBackTo_52 : decode cX2_goBackTo 52 = .ok (.return_, 1) := by decide +kernel
theorem dX2_setTimeTo_0 : decode cX2_setTimeTo 0 = .ok (.aload_n 0, 1) := by decide +kernel
theorem dX2_setTimeTo_1 : decode cX2_setTimeTo 1 = .ok (.aload_n 1, 1) := by decide +kernel
theorem dX2_setTimeTo_2 : decode cX2_setTimeTo 2 = .ok (.getfield 39, 3) := by decide +kernel
theorem dX2_setTimeTo_5 : decode cX2_setTimeTo 5 = .ok (.putfield 39, 3) := by decide +kernel
theorem dX2_setTimeTo_8 : decode cX2_setTimeTo 8 = .ok (.aload_n 0, 1) := by decide +kernel
theorem dX2_setTimeTo_9 : decode cX2_setTimeTo 9 = .ok (.aload_n 1, 1) := by decide +kernel
theorem dX2_setTimeTo_10 : decode cX2_setTimeTo 10 = .ok (.getfield 42, 3) := by decide +kernel
theorem dX2_setTimeTo_13 : decode cX2_setTimeTo 13 = .ok (.putfield 42, 3) := by decide +kernel
theorem dX2_setTimeTo_16 : decode cX2_setTimeTo 16 = .ok (.aload_n 0, 1) := by decide +kernel
theorem dX2_setTimeTo_17 : decode cX2_setTimeTo 17 = .ok (.aload_n 1, 1) := by decide +kernel
theorem dX2_setTimeTo_18 : decode cX2_setTimeTo 18 = .ok (.getfield 45, 3) := by decide +kernel
theorem dX2_setTimeTo_21 : decode cX2_setTimeTo 21 = .ok (.putfield 45, 3) := by decide +kernel
theorem dX2_setTimeTo_24 : decode cX2_setTimeTo 24 = .ok (.aload_n 0, 1) := by decide +kernel
theorem dX2_setTimeTo_25 : decode cX2_setTimeTo 25 = .ok (.aload_n 1, 1) := by decide +kernel
theorem dX2_setTimeTo_26 : decode cX2_setTimeTo 26 = .ok (.getfield 48, 3) := by decide +kernel
theorem dX2_setTimeTo_29 : decode cX2_setTimeTo 29 = .ok (.putfield 48, 3) := by decide +kernel
theorem dX2_setTimeTo_32 : decode cX2_setTimeTo 32 = .ok (.aload_n 0, 1) := by decide +kernel
theorem dX2_setTimeTo_33 : decode cX2_setTimeTo 33 = .ok (.aload_n 1, 1) := by decide +kernel
theorem dX2_setTimeTo_34 : decode cX2_setTimeTo 34 = .ok (.getfield 51, 3) := by decide +kernel
theorem dX2_setTimeTo_37 : decode cX2_setTimeTo 37 = .ok (.putfield 51, 3) := by decide +kernel
theorem dX2_setTimeTo_40 : decode cX2_setTimeTo 40 = .ok (.aload_n 0, 1) := by decide +kernel
theorem dX2_setTimeTo_41 : decode cX2_setTimeTo 41 = .ok (.aload_n 1, 1) := by decide +kernel
theorem dX2_setTimeTo_42 : decode cX2_setTimeTo 42 = .ok (.getfield 57, 3) := by decide +kernel
theorem dX2_setTimeTo_45 : decode cX2_setTimeTo 45 = .ok (.putfield 57, 3) := by decide +kernel
theorem dX2_setTimeTo_48 : decode cX2_setTimeTo 48 = .ok (.aload_n 0, 1) := by decide +kernel
theorem dX2_setTimeTo_49 : decode cX2_setTimeTo 49 = .ok (.aload_n 1, 1) := by decide +kernel
theorem dX2_setTimeTo_50 : decode cX2_setTimeTo 50 = .ok (.getfield 60, 3) := by decide +kernel
theorem dX2_setTimeTo_53 : decode cX2_setTimeTo 53 = .ok (.putfield 60, 3) := by decide +kernel
theorem dX2_setTimeTo_56 : decode cX2_setTimeTo 56 = .ok (.return_, 1) := by decide +kernel
theorem dX2_member_0 : decode cX2_member 0 = .ok (.iload_n 1, 1) := by decide +kernel
theorem dX2_member_1 : decode cX2_member 1 = .ok (.ifCond .lt 29, 3) := by decide +kernel
theorem dX2_member_4 : decode cX2_member 4 = .ok (.iload_n 1, 1) := by decide +kernel
theorem dX2_member_5 : decode cX2_member 5 = .ok (.aload_n 0, 1) := by decide +kernel
theorem dX2_member_6 : decode cX2_member 6 = .ok (.getfield 54, 3) := by decide +kernel
theorem dX2_member_9 : decode cX2_member 9 = .ok (.if_icmp .ge 21, 3) := by decide +kernel
theorem dX2_member_12 : decode cX2_member 12 = .ok (.iload_n 1, 1) := by decide +kernel
theorem dX2_member_13 : decode cX2_member 13 = .ok (.aload_n 0, 1) := by decide +kernel
theorem dX2_member_14 : decode cX2_member 14 = .ok (.getfield 11, 3) := by decide +kernel
theorem dX2_member_17 : decode cX2_member 17 = .ok (.arraylength, 1) := by decide +kernel
theorem dX2_member_18 : decode cX2_member 18 = .ok (.if_icmp .ge 12, 3) := by decide +kernel
theorem dX2_member_21 : decode cX2_member 21 = .ok (.aload_n 0, 1) := by decide +kernel
theorem dX2_member_22 : decode cX2_member 22 = .ok (.getfield 11, 3) := by decide +kernel
theorem dX2_member_25 : decode cX2_member 25 = .ok (.iload_n 1, 1) := by decide +kernel
theorem dX2_member_26 : decode cX2_member 26 = .ok (.aaload, 1) := by decide +kernel
theorem dX2_member_27 : decode cX2_member 27 = .ok (.goto 7, 3) := by decide +kernel
theorem dX2_member_30 : decode cX2_member 30 = .ok (.aload_n 0, 1) := by decide +kernel
theorem dX2_member_31 : decode cX2_member 31 = .ok (.getfield 31, 3) := by decide +kernel
theorem dX2_member_34 : decode cX2_member 34 = .ok (.astore_n 2, 1) := by decide +kernel
theorem dX2_member_35 : decode cX2_member 35 = .ok (.aload_n 2, 1) := by decide +kernel
theorem dX2_member_36 : decode cX2_member 36 = .ok (.ifnonnull 10, 3) := by decide +kernel
theorem dX2_member_39 : decode cX2_member 39 = .ok (.aload_n 0, 1) := by decide +kernel
theorem dX2_member_40 : decode cX2_member 40 = .ok (.getfield 31, 3) := by decide +kernel
theorem dX2_member_43 : decode cX2_member 43 = .ok (.goto 4, 3) := by decide +kernel
theorem dX2_member_46 : decode cX2_member 46 = .ok (.aload_n 2, 1) := by decide +kernel
theorem dX2_member_47 : decode cX2_member 47 = .ok (.areturn, 1) := by decide +kernel
theorem dX2_settle_0 : decode cX2_settle 0 = .ok (.aload_n 0, 1) := by decide +kernel
theorem dX2_settle_1 : decode cX2_settle 1 = .ok (.getfield 54, 3) := by decide +kernel
theorem dX2_settle_4 : decode cX2_settle 4 = .ok (.istore 4, 2) := by decide +kernel
theorem dX2_settle_6 : decode cX2_settle 6 = .ok (.aload_n 0, 1) := by decide +kernel
theorem dX2_settle_7 : decode cX2_settle 7 = .ok (.dup, 1) := by decide +kernel
theorem dX2_settle_8 : decode cX2_settle 8 = .ok (.getfield 54, 3) := by decide +kernel
theorem dX2_settle_11 : decode cX2_settle 11 = .ok (.iconst 1, 1) := by decide +kernel
theorem dX2_settle_12 : decode cX2_settle 12 = .ok (.iadd, 1) := by decide +kernel
theorem dX2_settle_13 : decode cX2_settle 13 = .ok (.putfield 54, 3) := by decide +kernel
theorem dX2_settle_16 : decode cX2_settle 16 = .ok (.aload_n 0, 1) := by decide +kernel
theorem dX2_settle_17 : decode cX2_settle 17 = .ok (.iload 4, 2) := by decide +kernel
theorem dX2_settle_19 : decode cX2_settle 19 = .ok (.invokevirtual 63, 3) := by decide +kernel
theorem dX2_settle_22 : decode cX2_settle 22 = .ok (.astore 5, 2) := by decide +kernel
theorem dX2_settle_24 : decode cX2_settle 24 = .ok (.iload_n 1, 1) := by decide +kernel
theorem dX2_settle_25 : decode cX2_settle 25 = .ok (.ifCond .lt 21, 3) := by decide +kernel
theorem dX2_settle_28 : decode cX2_settle 28 = .ok (.iload_n 1, 1) := by decide +kernel
theorem dX2_settle_29 : decode cX2_settle 29 = .ok (.aload_n 0, 1) := by decide +kernel
theorem dX2_settle_30 : decode cX2_settle 30 = .ok (.getfield 17, 3) := by decide +kernel
theorem dX2_settle_33 : decode cX2_settle 33 = .ok (.arraylength, 1) := by decide +kernel
theorem dX2_settle_34 : decode cX2_settle 34 = .ok (.if_icmp .ge 12, 3) := by decide +kernel
theorem dX2_settle_37 : decode cX2_settle 37 = .ok (.aload_n 0, 1) := by decide +kernel
theorem dX2_settle_38 : decode cX2_settle 38 = .ok (.getfield 17, 3) := by decide +kernel
theorem dX2_settle_41 : decode cX2_settle 41 = .ok (.iload_n 1, 1) := by decide +kernel
theorem dX2_settle_42 : decode cX2_settle 42 = .ok (.aaload, 1) := by decide +kernel
theorem dX2_settle_43 : decode cX2_settle 43 = .ok (.goto 7, 3) := by decide +kernel
theorem dX2_settle_46 : decode cX2_settle 46 = .ok (.aload_n 0, 1) := by decide +kernel
theorem dX2_settle_47 : decode cX2_settle 47 = .ok (.getfield 24, 3) := by decide +kernel
theorem dX2_settle_50 : decode cX2_settle 50 = .ok (.astore 6, 2) := by decide +kernel
theorem dX2_settle_52 : decode cX2_settle 52 = .ok (.aload 5, 2) := by decide +kernel
theorem dX2_settle_54 : decode cX2_settle 54 = .ok (.aload 6, 2) := by decide +kernel
theorem dX2_settle_56 : decode cX2_settle 56 = .ok (.ifnonnull 10, 3) := by decide +kernel
theorem dX2_settle_59 : decode cX2_settle 59 = .ok (.aload_n 0, 1) := by decide +kernel
theorem dX2_settle_60 : decode cX2_settle 60 = .ok (.getfield 24, 3) := by decide +kernel
theorem dX2_settle_63 : decode cX2_settle 63 = .ok (.goto 5, 3) := by decide +kernel
theorem dX2_settle_66 : decode cX2_settle 66 = .ok (.aload 6, 2) := by decide +kernel
theorem dX2_settle_68 : decode cX2_settle 68 = .ok (.putfield 81, 3) := by decide +kernel
theorem dX2_settle_71 : decode cX2_settle 71 = .ok (.aload 5, 2) := by decide +kernel
theorem dX2_settle_73 : decode cX2_settle 73 = .ok (.iload_n 1, 1) := by decide +kernel
theorem dX2_settle_74 : decode cX2_settle 74 = .ok (.putfield 84, 3) := by decide +kernel
theorem dX2_settle_77 : decode cX2_settle 77 = .ok (.aload 5, 2) := by decide +kernel
theorem dX2_settle_79 : decode cX2_settle 79 = .ok (.iload_n 2, 1) := by decide +kernel
theorem dX2_settle_80 : decode cX2_settle 80 = .ok (.putfield 75, 3) := by decide +kernel
theorem dX2_settle_83 : decode cX2_settle 83 = .ok (.aload 5, 2) := by decide +kernel
theorem dX2_settle_85 : decode cX2_settle 85 = .ok (.iload_n 3, 1) := by decide +kernel
theorem dX2_settle_86 : decode cX2_settle 86 = .ok (.putfield 78, 3) := by decide +kernel
theorem dX2_settle_89 : decode cX2_settle 89 = .ok (.aload 5, 2) := by decide +kernel
theorem dX2_settle_91 : decode cX2_settle 91 = .ok (.iconst 0, 1) := by decide +kernel
theorem dX2_settle_92 : decode cX2_settle 92 = .ok (.putfield 87, 3) := by decide +kernel
theorem dX2_settle_95 : decode cX2_settle 95 = .ok (.iload 4, 2) := by decide +kernel
theorem dX2_settle_97 : decode cX2_settle 97 = .ok (.ireturn, 1) := by decide +kernel
theorem dX2_stock_0 : decode cX2_stock 0 = .ok (.iload_n 1, 1) := by decide +kernel
theorem dX2_stock_1 : decode cX2_stock 1 = .ok (.tableswitch 42 0 2 #[27, 32, 37], 27) := by decide +kernel
theorem dX2_stock_28 : decode cX2_stock 28 = .ok (.aload_n 0, 1) := by decide +kernel
theorem dX2_stock_29 : decode cX2_stock 29 = .ok (.getfield 42, 3) := by decide +kernel
theorem dX2_stock_32 : decode cX2_stock 32 = .ok (.ireturn, 1) := by decide +kernel
theorem dX2_stock_33 : decode cX2_stock 33 = .ok (.aload_n 0, 1) := by decide +kernel
theorem dX2_stock_34 : decode cX2_stock 34 = .ok (.getfield 45, 3) := by decide +kernel
theorem dX2_stock_37 : decode cX2_stock 37 = .ok (.ireturn, 1) := by decide +kernel
theorem dX2_stock_38 : decode cX2_stock 38 = .ok (.aload_n 0, 1) := by decide +kernel
theorem dX2_stock_39 : decode cX2_stock 39 = .ok (.getfield 48, 3) := by decide +kernel
theorem dX2_stock_42 : decode cX2_stock 42 = .ok (.ireturn, 1) := by decide +kernel
theorem dX2_stock_43 : decode cX2_stock 43 = .ok (.aload_n 0, 1) := by decide +kernel
theorem dX2_stock_44 : decode cX2_stock 44 = .ok (.getfield 51, 3) := by decide +kernel
theorem dX2_stock_47 : decode cX2_stock 47 = .ok (.ireturn, 1) := by decide +kernel
theorem dX2_restock_0 : decode cX2_restock 0 = .ok (.iload_n 1, 1) := by decide +kernel
theorem dX2_restock_1 : decode cX2_restock 1 = .ok (.tableswitch 51 0 2 #[27, 35, 43], 27) := by decide +kernel
theorem dX2_restock_28 : decode cX2_restock 28 = .ok (.aload_n 0, 1) := by decide +kernel
theorem dX2_restock_29 : decode cX2_restock 29 = .ok (.iload_n 2, 1) := by decide +kernel
theorem dX2_restock_30 : decode cX2_restock 30 = .ok (.putfield 42, 3) := by decide +kernel
theorem dX2_restock_33 : decode cX2_restock 33 = .ok (.goto 24, 3) := by decide +kernel
theorem dX2_restock_36 : decode cX2_restock 36 = .ok (.aload_n 0, 1) := by decide +kernel
theorem dX2_restock_37 : decode cX2_restock 37 = .ok (.iload_n 2, 1) := by decide +kernel
theorem dX2_restock_38 : decode cX2_restock 38 = .ok (.putfield 45, 3) := by decide +kernel
theorem dX2_restock_41 : decode cX2_restock 41 = .ok (.goto 16, 3) := by decide +kernel
theorem dX2_restock_44 : decode cX2_restock 44 = .ok (.aload_n 0, 1) := by decide +kernel
theorem dX2_restock_45 : decode cX2_restock 45 = .ok (.iload_n 2, 1) := by decide +kernel
theorem dX2_restock_46 : decode cX2_restock 46 = .ok (.putfield 48, 3) := by decide +kernel
theorem dX2_restock_49 : decode cX2_restock 49 = .ok (.goto 8, 3) := by decide +kernel
theorem dX2_restock_52 : decode cX2_restock 52 = .ok (.aload_n 0, 1) := by decide +kernel
theorem dX2_restock_53 : decode cX2_restock 53 = .ok (.iload_n 2, 1) := by decide +kernel
theorem dX2_restock_54 : decode cX2_restock 54 = .ok (.putfield 51, 3) := by decide +kernel
theorem dX2_restock_57 : decode cX2_restock 57 = .ok (.return_, 1) := by decide +kernel
theorem dX2_isNoon_0 : decode cX2_isNoon 0 = .ok (.iload_n 1, 1) := by decide +kernel
theorem dX2_isNoon_1 : decode cX2_isNoon 1 = .ok (.aload_n 0, 1) := by decide +kernel
theorem dX2_isNoon_2 : decode cX2_isNoon 2 = .ok (.getfield 35, 3) := by decide +kernel
theorem dX2_isNoon_5 : decode cX2_isNoon 5 = .ok (.invokestatic 90, 3) := by decide +kernel
theorem dX2_isNoon_8 : decode cX2_isNoon 8 = .ok (.aload_n 0, 1) := by decide +kernel
theorem dX2_isNoon_9 : decode cX2_isNoon 9 = .ok (.getfield 35, 3) := by decide +kernel
theorem dX2_isNoon_12 : decode cX2_isNoon 12 = .ok (.iconst 1, 1) := by decide +kernel
theorem dX2_isNoon_13 : decode cX2_isNoon 13 = .ok (.isub, 1) := by decide +kernel
theorem dX2_isNoon_14 : decode cX2_isNoon 14 = .ok (.if_icmp .ne 7, 3) := by decide +kernel
theorem dX2_isNoon_17 : decode cX2_isNoon 17 = .ok (.iconst 1, 1) := by decide +kernel
theorem dX2_isNoon_18 : decode cX2_isNoon 18 = .ok (.goto 4, 3) := by decide +kernel
theorem dX2_isNoon_21 : decode cX2_isNoon 21 = .ok (.iconst 0, 1) := by decide +kernel
theorem dX2_isNoon_22 : decode cX2_isNoon 22 = .ok (.ireturn, 1) := by decide +kernel
theorem dX2_yearsToNoon_0 : decode cX2_yearsToNoon 0 = .ok (.aload_n 0, 1) := by decide +kernel
theorem dX2_yearsToNoon_1 : decode cX2_yearsToNoon 1 = .ok (.getfield 35, 3) := by decide +kernel
theorem dX2_yearsToNoon_4 : decode cX2_yearsToNoon 4 = .ok (.iconst 1, 1) := by decide +kernel
theorem dX2_yearsToNoon_5 : decode cX2_yearsToNoon 5 = .ok (.isub, 1) := by decide +kernel
theorem dX2_yearsToNoon_6 : decode cX2_yearsToNoon 6 = .ok (.aload_n 0, 1) := by decide +kernel
theorem dX2_yearsToNoon_7 : decode cX2_yearsToNoon 7 = .ok (.getfield 39, 3) := by decide +kernel
theorem dX2_yearsToNoon_10 : decode cX2_yearsToNoon 10 = .ok (.aload_n 0, 1) := by decide +kernel
theorem dX2_yearsToNoon_11 : decode cX2_yearsToNoon 11 = .ok (.getfield 35, 3) := by decide +kernel
theorem dX2_yearsToNoon_14 : decode cX2_yearsToNoon 14 = .ok (.invokestatic 90, 3) := by decide +kernel
theorem dX2_yearsToNoon_17 : decode cX2_yearsToNoon 17 = .ok (.isub, 1) := by decide +kernel
theorem dX2_yearsToNoon_18 : decode cX2_yearsToNoon 18 = .ok (.ireturn, 1) := by decide +kernel
theorem dX2_sown_0 : decode cX2_sown 0 = .ok (.iconst 0, 1) := by decide +kernel
theorem dX2_sown_1 : decode cX2_sown 1 = .ok (.istore_n 1, 1) := by decide +kernel
theorem dX2_sown_2 : decode cX2_sown 2 = .ok (.iconst 0, 1) := by decide +kernel
theorem dX2_sown_3 : decode cX2_sown 3 = .ok (.istore_n 2, 1) := by decide +kernel
theorem dX2_sown_4 : decode cX2_sown 4 = .ok (.iload_n 2, 1) := by decide +kernel
theorem dX2_sown_5 : decode cX2_sown 5 = .ok (.aload_n 0, 1) := by decide +kernel
theorem dX2_sown_6 : decode cX2_sown 6 = .ok (.getfield 54, 3) := by decide +kernel
theorem dX2_sown_9 : decode cX2_sown 9 = .ok (.if_icmp .ge 29, 3) := by decide +kernel
theorem dX2_sown_12 : decode cX2_sown 12 = .ok (.aload_n 0, 1) := by decide +kernel
theorem dX2_sown_13 : decode cX2_sown 13 = .ok (.iload_n 2, 1) := by decide +kernel
theorem dX2_sown_14 : decode cX2_sown 14 = .ok (.invokevirtual 63, 3) := by decide +kernel
theorem dX2_sown_17 : decode cX2_sown 17 = .ok (.astore_n 3, 1) := by decide +kernel
theorem dX2_sown_18 : decode cX2_sown 18 = .ok (.aload_n 3, 1) := by decide +kernel
theorem dX2_sown_19 : decode cX2_sown 19 = .ok (.getfield 78, 3) := by decide +kernel
theorem dX2_sown_22 : decode cX2_sown 22 = .ok (.ifCond .le 10, 3) := by decide +kernel
theorem dX2_sown_25 : decode cX2_sown 25 = .ok (.iload_n 1, 1) := by decide +kernel
theorem dX2_sown_26 : decode cX2_sown 26 = .ok (.aload_n 3, 1) := by decide +kernel
theorem dX2_sown_27 : decode cX2_sown 27 = .ok (.getfield 75, 3) := by decide +kernel
theorem dX2_sown_30 : decode cX2_sown 30 = .ok (.iadd, 1) := by decide +kernel
theorem dX2_sown_31 : decode cX2_sown 31 = .ok (.istore_n 1, 1) := by decide +kernel
theorem dX2_sown_32 : decode cX2_sown 32 = .ok (.iinc 2 1, 3) := by decide +kernel
theorem dX2_sown_35 : decode cX2_sown 35 = .ok (.goto (-31), 3) := by decide +kernel
theorem dX2_sown_38 : decode cX2_sown 38 = .ok (.aload_n 0, 1) := by decide +kernel
theorem dX2_sown_39 : decode cX2_sown 39 = .ok (.getfield 45, 3) := by decide +kernel
theorem dX2_sown_42 : decode cX2_sown 42 = .ok (.iconst 3, 1) := by decide +kernel
theorem dX2_sown_43 : decode cX2_sown 43 = .ok (.aload_n 0, 1) := by decide +kernel
theorem dX2_sown_44 : decode cX2_sown 44 = .ok (.getfield 48, 3) := by decide +kernel
theorem dX2_sown_47 : decode cX2_sown 47 = .ok (.imul, 1) := by decide +kernel
theorem dX2_sown_48 : decode cX2_sown 48 = .ok (.invokestatic 98, 3) := by decide +kernel
theorem dX2_sown_51 : decode cX2_sown 51 = .ok (.iload_n 1, 1) := by decide +kernel
theorem dX2_sown_52 : decode cX2_sown 52 = .ok (.invokestatic 98, 3) := by decide +kernel
theorem dX2_sown_55 : decode cX2_sown 55 = .ok (.ireturn, 1) := by decide +kernel
theorem dX2_goBy_0 : decode cX2_goBy 0 = .ok (.aload_n 0, 1) := by decide +kernel
theorem dX2_goBy_1 : decode cX2_goBy 1 = .ok (.aload_n 0, 1) := by decide +kernel
theorem dX2_goBy_2 : decode cX2_goBy 2 = .ok (.getfield 39, 3) := by decide +kernel
theorem dX2_goBy_5 : decode cX2_goBy 5 = .ok (.invokevirtual 94, 3) := by decide +kernel
theorem dX2_goBy_8 : decode cX2_goBy 8 = .ok (.istore_n 2, 1) := by decide +kernel
theorem dX2_goBy_9 : decode cX2_goBy 9 = .ok (.iload_n 2, 1) := by decide +kernel
theorem dX2_goBy_10 : decode cX2_goBy 10 = .ok (.ifCond .eq 27, 3) := by decide +kernel
theorem dX2_goBy_13 : decode cX2_goBy 13 = .ok (.aload_n 0, 1) := by decide +kernel
theorem dX2_goBy_14 : decode cX2_goBy 14 = .ok (.iload_n 1, 1) := by decide +kernel
theorem dX2_goBy_15 : decode cX2_goBy 15 = .ok (.ifCond .eq 12, 3) := by decide +kernel
theorem dX2_goBy_18 : decode cX2_goBy 18 = .ok (.aload_n 0, 1) := by decide +kernel
theorem dX2_goBy_19 : decode cX2_goBy 19 = .ok (.invokevirtual 103, 3) := by decide +kernel
theorem dX2_goBy_22 : decode cX2_goBy 22 = .ok (.iconst 2, 1) := by decide +kernel
theorem dX2_goBy_23 : decode cX2_goBy 23 = .ok (.idiv, 1) := by decide +kernel
theorem dX2_goBy_24 : decode cX2_goBy 24 = .ok (.goto 7, 3) := by decide +kernel
theorem dX2_goBy_27 : decode cX2_goBy 27 = .ok (.aload_n 0, 1) := by decide +kernel
theorem dX2_goBy_28 : decode cX2_goBy 28 = .ok (.invokevirtual 103, 3) := by decide +kernel
theorem dX2_goBy_31 : decode cX2_goBy 31 = .ok (.invokevirtual 107, 3) := by decide +kernel
theorem dX2_goBy_34 : decode cX2_goBy 34 = .ok (.goto 7, 3) := by decide +kernel
theorem dX2_goBy_37 : decode cX2_goBy 37 = .ok (.aload_n 0, 1) := by decide +kernel
theorem dX2_goBy_38 : decode cX2_goBy 38 = .ok (.invokevirtual 111, 3) := by decide +kernel
theorem dX2_goBy_41 : decode cX2_goBy 41 = .ok (.aload_n 0, 1) := by decide +kernel
theorem dX2_goBy_42 : decode cX2_goBy 42 = .ok (.iload_n 2, 1) := by decide +kernel
theorem dX2_goBy_43 : decode cX2_goBy 43 = .ok (.invokevirtual 114, 3) := by decide +kernel
theorem dX2_goBy_46 : decode cX2_goBy 46 = .ok (.istore_n 3, 1) := by decide +kernel
theorem dX2_goBy_47 : decode cX2_goBy 47 = .ok (.iload_n 2, 1) := by decide +kernel
theorem dX2_goBy_48 : decode cX2_goBy 48 = .ok (.ifCond .eq 10, 3) := by decide +kernel
theorem dX2_goBy_51 : decode cX2_goBy 51 = .ok (.aload_n 0, 1) := by decide +kernel
theorem dX2_goBy_52 : decode cX2_goBy 52 = .ok (.invokevirtual 118, 3) := by decide +kernel
theorem dX2_goBy_55 : decode cX2_goBy 55 = .ok (.goto 15, 3) := by decide +kernel
theorem dX2_goBy_58 : decode cX2_goBy 58 = .ok (.aload_n 0, 1) := by decide +kernel
theorem dX2_goBy_59 : decode cX2_goBy 59 = .ok (.invokevirtual 121, 3) := by decide +kernel
theorem dX2_goBy_62 : decode cX2_goBy 62 = .ok (.aload_n 0, 1) := by decide +kernel
theorem dX2_goBy_63 : decode cX2_goBy 63 = .ok (.invokevirtual 124, 3) := by decide +kernel
theorem dX2_goBy_66 : decode cX2_goBy 66 = .ok (.aload_n 0, 1) := by decide +kernel
theorem dX2_goBy_67 : decode cX2_goBy 67 = .ok (.invokevirtual 127, 3) := by decide +kernel
theorem dX2_goBy_70 : decode cX2_goBy 70 = .ok (.aload_n 0, 1) := by decide +kernel
theorem dX2_goBy_71 : decode cX2_goBy 71 = .ok (.dup, 1) := by decide +kernel
theorem dX2_goBy_72 : decode cX2_goBy 72 = .ok (.getfield 57, 3) := by decide +kernel
theorem dX2_goBy_75 : decode cX2_goBy 75 = .ok (.iload_n 3, 1) := by decide +kernel
theorem dX2_goBy_76 : decode cX2_goBy 76 = .ok (.iadd, 1) := by decide +kernel
theorem dX2_goBy_77 : decode cX2_goBy 77 = .ok (.putfield 57, 3) := by decide +kernel
theorem dX2_goBy_80 : decode cX2_goBy 80 = .ok (.aload_n 0, 1) := by decide +kernel
theorem dX2_goBy_81 : decode cX2_goBy 81 = .ok (.dup, 1) := by decide +kernel
theorem dX2_goBy_82 : decode cX2_goBy 82 = .ok (.getfield 39, 3) := by decide +kernel
theorem dX2_goBy_85 : decode cX2_goBy 85 = .ok (.iconst 1, 1) := by decide +kernel
theorem dX2_goBy_86 : decode cX2_goBy 86 = .ok (.iadd, 1) := by decide +kernel
theorem dX2_goBy_87 : decode cX2_goBy 87 = .ok (.putfield 39, 3) := by decide +kernel
theorem dX2_goBy_90 : decode cX2_goBy 90 = .ok (.iload_n 3, 1) := by decide +kernel
theorem dX2_goBy_91 : decode cX2_goBy 91 = .ok (.ireturn, 1) := by decide +kernel
theorem dX2_harvest_0 : decode cX2_harvest 0 = .ok (.aload_n 0, 1) := by decide +kernel
theorem dX2_harvest_1 : decode cX2_harvest 1 = .ok (.aload_n 0, 1) := by decide +kernel
theorem dX2_harvest_2 : decode cX2_harvest 2 = .ok (.getfield 42, 3) := by decide +kernel
theorem dX2_harvest_5 : decode cX2_harvest 5 = .ok (.iconst 5, 1) := by decide +kernel
theorem dX2_harvest_6 : decode cX2_harvest 6 = .ok (.iload_n 1, 1) := by decide +kernel
theorem dX2_harvest_7 : decode cX2_harvest 7 = .ok (.imul, 1) := by decide +kernel
theorem dX2_harvest_8 : decode cX2_harvest 8 = .ok (.iadd, 1) := by decide +kernel
theorem dX2_harvest_9 : decode cX2_harvest 9 = .ok (.invokestatic 130, 3) := by decide +kernel
theorem dX2_harvest_12 : decode cX2_harvest 12 = .ok (.putfield 42, 3) := by decide +kernel
theorem dX2_harvest_15 : decode cX2_harvest 15 = .ok (.aload_n 0, 1) := by decide +kernel
theorem dX2_harvest_16 : decode cX2_harvest 16 = .ok (.aload_n 0, 1) := by decide +kernel
theorem dX2_harvest_17 : decode cX2_harvest 17 = .ok (.getfield 45, 3) := by decide +kernel
theorem dX2_harvest_20 : decode cX2_harvest 20 = .ok (.iload_n 1, 1) := by decide +kernel
theorem dX2_harvest_21 : decode cX2_harvest 21 = .ok (.iadd, 1) := by decide +kernel
theorem dX2_harvest_22 : decode cX2_harvest 22 = .ok (.invokestatic 130, 3) := by decide +kernel
theorem dX2_harvest_25 : decode cX2_harvest 25 = .ok (.putfield 45, 3) := by decide +kernel
theorem dX2_harvest_28 : decode cX2_harvest 28 = .ok (.aload_n 0, 1) := by decide +kernel
theorem dX2_harvest_29 : decode cX2_harvest 29 = .ok (.aload_n 0, 1) := by decide +kernel
theorem dX2_harvest_30 : decode cX2_harvest 30 = .ok (.getfield 48, 3) := by decide +kernel
theorem dX2_harvest_33 : decode cX2_harvest 33 = .ok (.iload_n 1, 1) := by decide +kernel
theorem dX2_harvest_34 : decode cX2_harvest 34 = .ok (.iconst 3, 1) := by decide +kernel
theorem dX2_harvest_35 : decode cX2_harvest 35 = .ok (.idiv, 1) := by decide +kernel
theorem dX2_harvest_36 : decode cX2_harvest 36 = .ok (.isub, 1) := by decide +kernel
theorem dX2_harvest_37 : decode cX2_harvest 37 = .ok (.invokestatic 130, 3) := by decide +kernel
theorem dX2_harvest_40 : decode cX2_harvest 40 = .ok (.putfield 48, 3) := by decide +kernel
theorem dX2_harvest_43 : decode cX2_harvest 43 = .ok (.aload_n 0, 1) := by decide +kernel
theorem dX2_harvest_44 : decode cX2_harvest 44 = .ok (.aload_n 0, 1) := by decide +kernel
theorem dX2_harvest_45 : decode cX2_harvest 45 = .ok (.getfield 51, 3) := by decide +kernel
theorem dX2_harvest_48 : decode cX2_harvest 48 = .ok (.bipush 10, 2) := by decide +kernel
theorem dX2_harvest_50 : decode cX2_harvest 50 = .ok (.iadd, 1) := by decide +kernel
theorem dX2_harvest_51 : decode cX2_harvest 51 = .ok (.invokestatic 130, 3) := by decide +kernel
theorem dX2_harvest_54 : decode cX2_harvest 54 = .ok (.putfield 51, 3) := by decide +kernel
theorem dX2_harvest_57 : decode cX2_harvest 57 = .ok (.return_, 1) := by decide +kernel
theorem dX2_work_0 : decode cX2_work 0 = .ok (.iconst 0, 1) := by decide +kernel
theorem dX2_work_1 : decode cX2_work 1 = .ok (.istore_n 1, 1) := by decide +kernel
theorem dX2_work_2 : decode cX2_work 2 = .ok (.iload_n 1, 1) := by decide +kernel
theorem dX2_work_3 : decode cX2_work 3 = .ok (.aload_n 0, 1) := by decide +kernel
theorem dX2_work_4 : decode cX2_work 4 = .ok (.getfield 54, 3) := by decide +kernel
theorem dX2_work_7 : decode cX2_work 7 = .ok (.if_icmp .ge 141, 3) := by decide +kernel
theorem dX2_work_10 : decode cX2_work 10 = .ok (.aload_n 0, 1) := by decide +kernel
theorem dX2_work_11 : decode cX2_work 11 = .ok (.iload_n 1, 1) := by decide +kernel
theorem dX2_work_12 : decode cX2_work 12 = .ok (.invokevirtual 63, 3) := by decide +kernel
theorem dX2_work_15 : decode cX2_work 15 = .ok (.astore_n 2, 1) := by decide +kernel
theorem dX2_work_16 : decode cX2_work 16 = .ok (.aload_n 2, 1) := by decide +kernel
theorem dX2_work_17 : decode cX2_work 17 = .ok (.getfield 81, 3) := by decide +kernel
theorem dX2_work_20 : decode cX2_work 20 = .ok (.aload_n 0, 1) := by decide +kernel
theorem dX2_work_21 : decode cX2_work 21 = .ok (.getfield 39, 3) := by decide +kernel
theorem dX2_work_24 : decode cX2_work 24 = .ok (.invokevirtual 134, 3) := by decide +kernel
theorem dX2_work_27 : decode cX2_work 27 = .ok (.ifCond .eq 6, 3) := by decide +kernel
theorem dX2_work_30 : decode cX2_work 30 = .ok (.goto 112, 3) := by decide +kernel
theorem dX2_work_33 : decode cX2_work 33 = .ok (.aload_n 2, 1) := by decide +kernel
theorem dX2_work_34 : decode cX2_work 34 = .ok (.getfield 87, 3) := by decide +kernel
theorem dX2_work_37 : decode cX2_work 37 = .ok (.tableswitch 105 1 4 #[31, 39, 61, 83], 31) := by decide +kernel
theorem dX2_work_68 : decode cX2_work 68 = .ok (.aload_n 0, 1) := by decide +kernel
theorem dX2_work_69 : decode cX2_work 69 = .ok (.iload_n 1, 1) := by decide +kernel
theorem dX2_work_70 : decode cX2_work 70 = .ok (.invokevirtual 137, 3) := by decide +kernel
theorem dX2_work_73 : decode cX2_work 73 = .ok (.goto 69, 3) := by decide +kernel
theorem dX2_work_76 : decode cX2_work 76 = .ok (.aload_n 0, 1) := by decide +kernel
theorem dX2_work_77 : decode cX2_work 77 = .ok (.aload_n 0, 1) := by decide +kernel
theorem dX2_work_78 : decode cX2_work 78 = .ok (.getfield 48, 3) := by decide +kernel
theorem dX2_work_81 : decode cX2_work 81 = .ok (.aload_n 2, 1) := by decide +kernel
theorem dX2_work_82 : decode cX2_work 82 = .ok (.getfield 81, 3) := by decide +kernel
theorem dX2_work_85 : decode cX2_work 85 = .ok (.invokevirtual 140, 3) := by decide +kernel
theorem dX2_work_88 : decode cX2_work 88 = .ok (.iadd, 1) := by decide +kernel
theorem dX2_work_89 : decode cX2_work 89 = .ok (.invokestatic 130, 3) := by decide +kernel
theorem dX2_work_92 : decode cX2_work 92 = .ok (.putfield 48, 3) := by decide +kernel
theorem dX2_work_95 : decode cX2_work 95 = .ok (.goto 47, 3) := by decide +kernel
theorem dX2_work_98 : decode cX2_work 98 = .ok (.aload_n 0, 1) := by decide +kernel
theorem dX2_work_99 : decode cX2_work 99 = .ok (.aload_n 0, 1) := by decide +kernel
theorem dX2_work_100 : decode cX2_work 100 = .ok (.getfield 45, 3) := by decide +kernel
theorem dX2_work_103 : decode cX2_work 103 = .ok (.aload_n 2, 1) := by decide +kernel
theorem dX2_work_104 : decode cX2_work 104 = .ok (.getfield 81, 3) := by decide +kernel
theorem dX2_work_107 : decode cX2_work 107 = .ok (.invokevirtual 143, 3) := by decide +kernel
theorem dX2_work_110 : decode cX2_work 110 = .ok (.iadd, 1) := by decide +kernel
theorem dX2_work_111 : decode cX2_work 111 = .ok (.invokestatic 130, 3) := by decide +kernel
theorem dX2_work_114 : decode cX2_work 114 = .ok (.putfield 45, 3) := by decide +kernel
theorem dX2_work_117 : decode cX2_work 117 = .ok (.goto 25, 3) := by decide +kernel
theorem dX2_work_120 : decode cX2_work 120 = .ok (.aload_n 0, 1) := by decide +kernel
theorem dX2_work_121 : decode cX2_work 121 = .ok (.aload_n 0, 1) := by decide +kernel
theorem dX2_work_122 : decode cX2_work 122 = .ok (.getfield 51, 3) := by decide +kernel
theorem dX2_work_125 : decode cX2_work 125 = .ok (.aload_n 2, 1) := by decide +kernel
theorem dX2_work_126 : decode cX2_work 126 = .ok (.getfield 81, 3) := by decide +kernel
theorem dX2_work_129 : decode cX2_work 129 = .ok (.invokevirtual 146, 3) := by decide +kernel
theorem dX2_work_132 : decode cX2_work 132 = .ok (.iadd, 1) := by decide +kernel
theorem dX2_work_133 : decode cX2_work 133 = .ok (.invokestatic 130, 3) := by decide +kernel
theorem dX2_work_136 : decode cX2_work 136 = .ok (.putfield 51, 3) := by decide +kernel
theorem dX2_work_139 : decode cX2_work 139 = .ok (.goto 3, 3) := by decide +kernel
theorem dX2_work_142 : decode cX2_work 142 = .ok (.iinc 1 1, 3) := by decide +kernel
theorem dX2_work_145 : decode cX2_work 145 = .ok (.goto (-143), 3) := by decide +kernel
theorem dX2_work_148 : decode cX2_work 148 = .ok (.return_, 1) := by decide +kernel
theorem dX2_teach_0 : decode cX2_teach 0 = .ok (.aload_n 0, 1) := by decide +kernel
theorem dX2_teach_1 : decode cX2_teach 1 = .ok (.iload_n 1, 1) := by decide +kernel
theorem dX2_teach_2 : decode cX2_teach 2 = .ok (.invokevirtual 63, 3) := by decide +kernel
theorem dX2_teach_5 : decode cX2_teach 5 = .ok (.getfield 78, 3) := by decide +kernel
theorem dX2_teach_8 : decode cX2_teach 8 = .ok (.iconst 1, 1) := by decide +kernel
theorem dX2_teach_9 : decode cX2_teach 9 = .ok (.isub, 1) := by decide +kernel
theorem dX2_teach_10 : decode cX2_teach 10 = .ok (.istore_n 2, 1) := by decide +kernel
theorem dX2_teach_11 : decode cX2_teach 11 = .ok (.iconst 0, 1) := by decide +kernel
theorem dX2_teach_12 : decode cX2_teach 12 = .ok (.istore_n 3, 1) := by decide +kernel
theorem dX2_teach_13 : decode cX2_teach 13 = .ok (.iload_n 3, 1) := by decide +kernel
theorem dX2_teach_14 : decode cX2_teach 14 = .ok (.aload_n 0, 1) := by decide +kernel
theorem dX2_teach_15 : decode cX2_teach 15 = .ok (.getfield 54, 3) := by decide +kernel
theorem dX2_teach_18 : decode cX2_teach 18 = .ok (.if_icmp .ge 35, 3) := by decide +kernel
theorem dX2_teach_21 : decode cX2_teach 21 = .ok (.aload_n 0, 1) := by decide +kernel
theorem dX2_teach_22 : decode cX2_teach 22 = .ok (.iload_n 3, 1) := by decide +kernel
theorem dX2_teach_23 : decode cX2_teach 23 = .ok (.invokevirtual 63, 3) := by decide +kernel
theorem dX2_teach_26 : decode cX2_teach 26 = .ok (.astore 4, 2) := by decide +kernel
theorem dX2_teach_28 : decode cX2_teach 28 = .ok (.iload_n 3, 1) := by decide +kernel
theorem dX2_teach_29 : decode cX2_teach 29 = .ok (.iload_n 1, 1) := by decide +kernel
theorem dX2_teach_30 : decode cX2_teach 30 = .ok (.if_icmp .eq 17, 3) := by decide +kernel
theorem dX2_teach_33 : decode cX2_teach 33 = .ok (.aload 4, 2) := by decide +kernel
theorem dX2_teach_35 : decode cX2_teach 35 = .ok (.aload 4, 2) := by decide +kernel
theorem dX2_teach_37 : decode cX2_teach 37 = .ok (.getfield 78, 3) := by decide +kernel
theorem dX2_teach_40 : decode cX2_teach 40 = .ok (.iload_n 2, 1) := by decide +kernel
theorem dX2_teach_41 : decode cX2_teach 41 = .ok (.invokestatic 149, 3) := by decide +kernel
theorem dX2_teach_44 : decode cX2_teach 44 = .ok (.putfield 78, 3) := by decide +kernel
theorem dX2_teach_47 : decode cX2_teach 47 = .ok (.iinc 3 1, 3) := by decide +kernel
theorem dX2_teach_50 : decode cX2_teach 50 = .ok (.goto (-37), 3) := by decide +kernel
theorem dX2_teach_53 : decode cX2_teach 53 = .ok (.return_, 1) := by decide +kernel
theorem dX2_feed_0 : decode cX2_feed 0 = .ok (.iconst 0, 1) := by decide +kernel
theorem dX2_feed_1 : decode cX2_feed 1 = .ok (.istore_n 2, 1) := by decide +kernel
theorem dX2_feed_2 : decode cX2_feed 2 = .ok (.iconst 0, 1) := by decide +kernel
theorem dX2_feed_3 : decode cX2_feed 3 = .ok (.istore_n 3, 1) := by decide +kernel
theorem dX2_feed_4 : decode cX2_feed 4 = .ok (.iload_n 3, 1) := by decide +kernel
theorem dX2_feed_5 : decode cX2_feed 5 = .ok (.aload_n 0, 1) := by decide +kernel
theorem dX2_feed_6 : decode cX2_feed 6 = .ok (.getfield 54, 3) := by decide +kernel
theorem dX2_feed_9 : decode cX2_feed 9 = .ok (.if_icmp .ge 21, 3) := by decide +kernel
theorem dX2_feed_12 : decode cX2_feed 12 = .ok (.iload_n 2, 1) := by decide +kernel
theorem dX2_feed_13 : decode cX2_feed 13 = .ok (.aload_n 0, 1) := by decide +kernel
theorem dX2_feed_14 : decode cX2_feed 14 = .ok (.iload_n 3, 1) := by decide +kernel
theorem dX2_feed_15 : decode cX2_feed 15 = .ok (.invokevirtual 63, 3) := by decide +kernel
theorem dX2_feed_18 : decode cX2_feed 18 = .ok (.iload_n 1, 1) := by decide +kernel
theorem dX2_feed_19 : decode cX2_feed 19 = .ok (.invokevirtual 152, 3) := by decide +kernel
theorem dX2_feed_22 : decode cX2_feed 22 = .ok (.iadd, 1) := by decide +kernel
theorem dX2_feed_23 : decode cX2_feed 23 = .ok (.istore_n 2, 1) := by decide +kernel
theorem dX2_feed_24 : decode cX2_feed 24 = .ok (.iinc 3 1, 3) := by decide +kernel
theorem dX2_feed_27 : decode cX2_feed 27 = .ok (.goto (-23), 3) := by decide +kernel
theorem dX2_feed_30 : decode cX2_feed 30 = .ok (.iconst 0, 1) := by decide +kernel
theorem dX2_feed_31 : decode cX2_feed 31 = .ok (.iload_n 2, 1) := by decide +kernel
theorem dX2_feed_32 : decode cX2_feed 32 = .ok (.aload_n 0, 1) := by decide +kernel
theorem dX2_feed_33 : decode cX2_feed 33 = .ok (.getfield 42, 3) := by decide +kernel
theorem dX2_feed_36 : decode cX2_feed 36 = .ok (.isub, 1) := by decide +kernel
theorem dX2_feed_37 : decode cX2_feed 37 = .ok (.invokestatic 149, 3) := by decide +kernel
theorem dX2_feed_40 : decode cX2_feed 40 = .ok (.istore_n 3, 1) := by decide +kernel
theorem dX2_feed_41 : decode cX2_feed 41 = .ok (.aload_n 0, 1) := by decide +kernel
theorem dX2_feed_42 : decode cX2_feed 42 = .ok (.aload_n 0, 1) := by decide +kernel
theorem dX2_feed_43 : decode cX2_feed 43 = .ok (.getfield 42, 3) := by decide +kernel
theorem dX2_feed_46 : decode cX2_feed 46 = .ok (.iload_n 2, 1) := by decide +kernel
theorem dX2_feed_47 : decode cX2_feed 47 = .ok (.isub, 1) := by decide +kernel
theorem dX2_feed_48 : decode cX2_feed 48 = .ok (.invokestatic 130, 3) := by decide +kernel
theorem dX2_feed_51 : decode cX2_feed 51 = .ok (.putfield 42, 3) := by decide +kernel
theorem dX2_feed_54 : decode cX2_feed 54 = .ok (.iload_n 3, 1) := by decide +kernel
theorem dX2_feed_55 : decode cX2_feed 55 = .ok (.ireturn, 1) := by decide +kernel
theorem dX2_warm_0 : decode cX2_warm 0 = .ok (.iconst 0, 1) := by decide +kernel
theorem dX2_warm_1 : decode cX2_warm 1 = .ok (.istore_n 1, 1) := by decide +kernel
theorem dX2_warm_2 : decode cX2_warm 2 = .ok (.iload_n 1, 1) := by decide +kernel
theorem dX2_warm_3 : decode cX2_warm 3 = .ok (.aload_n 0, 1) := by decide +kernel
theorem dX2_warm_4 : decode cX2_warm 4 = .ok (.getfield 54, 3) := by decide +kernel
theorem dX2_warm_7 : decode cX2_warm 7 = .ok (.if_icmp .ge 59, 3) := by decide +kernel
theorem dX2_warm_10 : decode cX2_warm 10 = .ok (.aload_n 0, 1) := by decide +kernel
theorem dX2_warm_11 : decode cX2_warm 11 = .ok (.getfield 51, 3) := by decide +kernel
theorem dX2_warm_14 : decode cX2_warm 14 = .ok (.ifCond .le 16, 3) := by decide +kernel
theorem dX2_warm_17 : decode cX2_warm 17 = .ok (.aload_n 0, 1) := by decide +kernel
theorem dX2_warm_18 : decode cX2_warm 18 = .ok (.dup, 1) := by decide +kernel
theorem dX2_warm_19 : decode cX2_warm 19 = .ok (.getfield 51, 3) := by decide +kernel
theorem dX2_warm_22 : decode cX2_warm 22 = .ok (.iconst 1, 1) := by decide +kernel
theorem dX2_warm_23 : decode cX2_warm 23 = .ok (.isub, 1) := by decide +kernel
theorem dX2_warm_24 : decode cX2_warm 24 = .ok (.putfield 51, 3) := by decide +kernel
theorem dX2_warm_27 : decode cX2_warm 27 = .ok (.goto 33, 3) := by decide +kernel
theorem dX2_warm_30 : decode cX2_warm 30 = .ok (.aload_n 0, 1) := by decide +kernel
theorem dX2_warm_31 : decode cX2_warm 31 = .ok (.dup, 1) := by decide +kernel
theorem dX2_warm_32 : decode cX2_warm 32 = .ok (.getfield 60, 3) := by decide +kernel
theorem dX2_warm_35 : decode cX2_warm 35 = .ok (.iconst 1, 1) := by decide +kernel
theorem dX2_warm_36 : decode cX2_warm 36 = .ok (.iadd, 1) := by decide +kernel
theorem dX2_warm_37 : decode cX2_warm 37 = .ok (.putfield 60, 3) := by decide +kernel
theorem dX2_warm_40 : decode cX2_warm 40 = .ok (.aload_n 0, 1) := by decide +kernel
theorem dX2_warm_41 : decode cX2_warm 41 = .ok (.iload_n 1, 1) := by decide +kernel
theorem dX2_warm_42 : decode cX2_warm 42 = .ok (.invokevirtual 63, 3) := by decide +kernel
theorem dX2_warm_45 : decode cX2_warm 45 = .ok (.astore_n 2, 1) := by decide +kernel
theorem dX2_warm_46 : decode cX2_warm 46 = .ok (.aload_n 2, 1) := by decide +kernel
theorem dX2_warm_47 : decode cX2_warm 47 = .ok (.iconst 1, 1) := by decide +kernel
theorem dX2_warm_48 : decode cX2_warm 48 = .ok (.aload_n 2, 1) := by decide +kernel
theorem dX2_warm_49 : decode cX2_warm 49 = .ok (.getfield 75, 3) := by decide +kernel
theorem dX2_warm_52 : decode cX2_warm 52 = .ok (.iconst 1, 1) := by decide +kernel
theorem dX2_warm_53 : decode cX2_warm 53 = .ok (.isub, 1) := by decide +kernel
theorem dX2_warm_54 : decode cX2_warm 54 = .ok (.invokestatic 149, 3) := by decide +kernel
theorem dX2_warm_57 : decode cX2_warm 57 = .ok (.putfield 75, 3) := by decide +kernel
theorem dX2_warm_60 : decode cX2_warm 60 = .ok (.iinc 1 1, 3) := by decide +kernel
theorem dX2_warm_63 : decode cX2_warm 63 = .ok (.goto (-61), 3) := by decide +kernel
theorem dX2_warm_66 : decode cX2_warm 66 = .ok (.return_, 1) := by decide +kernel
theorem dX2_lose_0 : decode cX2_lose 0 = .ok (.aload_n 0, 1) := by decide +kernel
theorem dX2_lose_1 : decode cX2_lose 1 = .ok (.dup, 1) := by decide +kernel
theorem dX2_lose_2 : decode cX2_lose 2 = .ok (.getfield 42, 3) := by decide +kernel
theorem dX2_lose_5 : decode cX2_lose 5 = .ok (.aload_n 0, 1) := by decide +kernel
theorem dX2_lose_6 : decode cX2_lose 6 = .ok (.getfield 42, 3) := by decide +kernel
theorem dX2_lose_9 : decode cX2_lose 9 = .ok (.bipush 10, 2) := by decide +kernel
theorem dX2_lose_11 : decode cX2_lose 11 = .ok (.idiv, 1) := by decide +kernel
theorem dX2_lose_12 : decode cX2_lose 12 = .ok (.isub, 1) := by decide +kernel
theorem dX2_lose_13 : decode cX2_lose 13 = .ok (.putfield 42, 3) := by decide +kernel
theorem dX2_lose_16 : decode cX2_lose 16 = .ok (.aload_n 0, 1) := by decide +kernel
theorem dX2_lose_17 : decode cX2_lose 17 = .ok (.dup, 1) := by decide +kernel
theorem dX2_lose_18 : decode cX2_lose 18 = .ok (.getfield 45, 3) := by decide +kernel
theorem dX2_lose_21 : decode cX2_lose 21 = .ok (.aload_n 0, 1) := by decide +kernel
theorem dX2_lose_22 : decode cX2_lose 22 = .ok (.getfield 45, 3) := by decide +kernel
theorem dX2_lose_25 : decode cX2_lose 25 = .ok (.bipush 8, 2) := by decide +kernel
theorem dX2_lose_27 : decode cX2_lose 27 = .ok (.idiv, 1) := by decide +kernel
theorem dX2_lose_28 : decode cX2_lose 28 = .ok (.isub, 1) := by decide +kernel
theorem dX2_lose_29 : decode cX2_lose 29 = .ok (.putfield 45, 3) := by decide +kernel
theorem dX2_lose_32 : decode cX2_lose 32 = .ok (.aload_n 0, 1) := by decide +kernel
theorem dX2_lose_33 : decode cX2_lose 33 = .ok (.getfield 39, 3) := by decide +kernel
theorem dX2_lose_36 : decode cX2_lose 36 = .ok (.iconst 5, 1) := by decide +kernel
theorem dX2_lose_37 : decode cX2_lose 37 = .ok (.irem, 1) := by decide +kernel
theorem dX2_lose_38 : decode cX2_lose 38 = .ok (.iconst 4, 1) := by decide +kernel
theorem dX2_lose_39 : decode cX2_lose 39 = .ok (.if_icmp .ne 16, 3) := by decide +kernel
theorem dX2_lose_42 : decode cX2_lose 42 = .ok (.aload_n 0, 1) := by decide +kernel
theorem dX2_lose_43 : decode cX2_lose 43 = .ok (.aload_n 0, 1) := by decide +kernel
theorem dX2_lose_44 : decode cX2_lose 44 = .ok (.getfield 48, 3) := by decide +kernel
theorem dX2_lose_47 : decode cX2_lose 47 = .ok (.iconst 1, 1) := by decide +kernel
theorem dX2_lose_48 : decode cX2_lose 48 = .ok (.isub, 1) := by decide +kernel
theorem dX2_lose_49 : decode cX2_lose 49 = .ok (.invokestatic 130, 3) := by decide +kernel
theorem dX2_lose_52 : decode cX2_lose 52 = .ok (.putfield 48, 3) := by decide +kernel
theorem dX2_lose_55 : decode cX2_lose 55 = .ok (.return_, 1) := by decide +kernel
theorem dX2_forget_0 : decode cX2_forget 0 = .ok (.iconst 0, 1) := by decide +kernel
theorem dX2_forget_1 : decode cX2_forget 1 = .ok (.istore_n 1, 1) := by decide +kernel
theorem dX2_forget_2 : decode cX2_forget 2 = .ok (.iload_n 1, 1) := by decide +kernel
theorem dX2_forget_3 : decode cX2_forget 3 = .ok (.aload_n 0, 1) := by decide +kernel
theorem dX2_forget_4 : decode cX2_forget 4 = .ok (.getfield 54, 3) := by decide +kernel
theorem dX2_forget_7 : decode cX2_forget 7 = .ok (.if_icmp .ge 35, 3) := by decide +kernel
theorem dX2_forget_10 : decode cX2_forget 10 = .ok (.aload_n 0, 1) := by decide +kernel
theorem dX2_forget_11 : decode cX2_forget 11 = .ok (.iload_n 1, 1) := by decide +kernel
theorem dX2_forget_12 : decode cX2_forget 12 = .ok (.invokevirtual 63, 3) := by decide +kernel
theorem dX2_forget_15 : decode cX2_forget 15 = .ok (.astore_n 2, 1) := by decide +kernel
theorem dX2_forget_16 : decode cX2_forget 16 = .ok (.aload_n 2, 1) := by decide +kernel
theorem dX2_forget_17 : decode cX2_forget 17 = .ok (.iconst 0, 1) := by decide +kernel
theorem dX2_forget_18 : decode cX2_forget 18 = .ok (.aload_n 2, 1) := by decide +kernel
theorem dX2_forget_19 : decode cX2_forget 19 = .ok (.getfield 78, 3) := by decide +kernel
theorem dX2_forget_22 : decode cX2_forget 22 = .ok (.aload_n 2, 1) := by decide +kernel
theorem dX2_forget_23 : decode cX2_forget 23 = .ok (.getfield 81, 3) := by decide +kernel
theorem dX2_forget_26 : decode cX2_forget 26 = .ok (.invokevirtual 155, 3) := by decide +kernel
theorem dX2_forget_29 : decode cX2_forget 29 = .ok (.isub, 1) := by decide +kernel
theorem dX2_forget_30 : decode cX2_forget 30 = .ok (.invokestatic 149, 3) := by decide +kernel
theorem dX2_forget_33 : decode cX2_forget 33 = .ok (.putfield 78, 3) := by decide +kernel
theorem dX2_forget_36 : decode cX2_forget 36 = .ok (.iinc 1 1, 3) := by decide +kernel
theorem dX2_forget_39 : decode cX2_forget 39 = .ok (.goto (-37), 3) := by decide +kernel
theorem dX2_forget_42 : decode cX2_forget 42 = .ok (.return_, 1) := by decide +kernel
theorem dX2_remember_0 : decode cX2_remember 0 = .ok (.iconst 0, 1) := by decide +kernel
theorem dX2_remember_1 : decode cX2_remember 1 = .ok (.istore_n 1, 1) := by decide +kernel
theorem dX2_remember_2 : decode cX2_remember 2 = .ok (.iload_n 1, 1) := by decide +kernel
theorem dX2_remember_3 : decode cX2_remember 3 = .ok (.aload_n 0, 1) := by decide +kernel
theorem dX2_remember_4 : decode cX2_remember 4 = .ok (.getfield 54, 3) := by decide +kernel
theorem dX2_remember_7 : decode cX2_remember 7 = .ok (.if_icmp .ge 19, 3) := by decide +kernel
theorem dX2_remember_10 : decode cX2_remember 10 = .ok (.aload_n 0, 1) := by decide +kernel
theorem dX2_remember_11 : decode cX2_remember 11 = .ok (.iload_n 1, 1) := by decide +kernel
theorem dX2_remember_12 : decode cX2_remember 12 = .ok (.invokevirtual 63, 3) := by decide +kernel
theorem dX2_remember_15 : decode cX2_remember 15 = .ok (.bipush 9, 2) := by decide +kernel
theorem dX2_remember_17 : decode cX2_remember 17 = .ok (.putfield 78, 3) := by decide +kernel
theorem dX2_remember_20 : decode cX2_remember 20 = .ok (.iinc 1 1, 3) := by decide +kernel
theorem dX2_remember_23 : decode cX2_remember 23 = .ok (.goto (-21), 3) := by decide +kernel
theorem dX2_remember_26 : decode cX2_remember 26 = .ok (.return_, 1) := by decide +kernel
theorem dX2_allDo_0 : decode cX2_allDo 0 = .ok (.iconst 0, 1) := by decide +kernel
theorem dX2_allDo_1 : decode cX2_allDo 1 = .ok (.istore_n 2, 1) := by decide +kernel
theorem dX2_allDo_2 : decode cX2_allDo 2 = .ok (.iload_n 2, 1) := by decide +kernel
theorem dX2_allDo_3 : decode cX2_allDo 3 = .ok (.aload_n 0, 1) := by decide +kernel
theorem dX2_allDo_4 : decode cX2_allDo 4 = .ok (.getfield 54, 3) := by decide +kernel
theorem dX2_allDo_7 : decode cX2_allDo 7 = .ok (.if_icmp .ge 18, 3) := by decide +kernel
theorem dX2_allDo_10 : decode cX2_allDo 10 = .ok (.aload_n 0, 1) := by decide +kernel
theorem dX2_allDo_11 : decode cX2_allDo 11 = .ok (.iload_n 2, 1) := by decide +kernel
theorem dX2_allDo_12 : decode cX2_allDo 12 = .ok (.invokevirtual 63, 3) := by decide +kernel
theorem dX2_allDo_15 : decode cX2_allDo 15 = .ok (.iload_n 1, 1) := by decide +kernel
theorem dX2_allDo_16 : decode cX2_allDo 16 = .ok (.putfield 87, 3) := by decide +kernel
theorem dX2_allDo_19 : decode cX2_allDo 19 = .ok (.iinc 2 1, 3) := by decide +kernel
theorem dX2_allDo_22 : decode cX2_allDo 22 = .ok (.goto (-20), 3) := by decide +kernel
theorem dX2_allDo_25 : decode cX2_allDo 25 = .ok (.return_, 1) := by decide +kernel
theorem dX2_onlyTeach_0 : decode cX2_onlyTeach 0 = .ok (.iconst 0, 1) := by decide +kernel
theorem dX2_onlyTeach_1 : decode cX2_onlyTeach 1 = .ok (.istore_n 2, 1) := by decide +kernel
theorem dX2_onlyTeach_2 : decode cX2_onlyTeach 2 = .ok (.iload_n 2, 1) := by decide +kernel
theorem dX2_onlyTeach_3 : decode cX2_onlyTeach 3 = .ok (.aload_n 0, 1) := by decide +kernel
theorem dX2_onlyTeach_4 : decode cX2_onlyTeach 4 = .ok (.getfield 54, 3) := by decide +kernel
theorem dX2_onlyTeach_7 : decode cX2_onlyTeach 7 = .ok (.if_icmp .ge 44, 3) := by decide +kernel
theorem dX2_onlyTeach_10 : decode cX2_onlyTeach 10 = .ok (.aload_n 0, 1) := by decide +kernel
theorem dX2_onlyTeach_11 : decode cX2_onlyTeach 11 = .ok (.iload_n 2, 1) := by decide +kernel
theorem dX2_onlyTeach_12 : decode cX2_onlyTeach 12 = .ok (.invokevirtual 63, 3) := by decide +kernel
theorem dX2_onlyTeach_15 : decode cX2_onlyTeach 15 = .ok (.astore_n 3, 1) := by decide +kernel
theorem dX2_onlyTeach_16 : decode cX2_onlyTeach 16 = .ok (.iload_n 1, 1) := by decide +kernel
theorem dX2_onlyTeach_17 : decode cX2_onlyTeach 17 = .ok (.iload_n 2, 1) := by decide +kernel
theorem dX2_onlyTeach_18 : decode cX2_onlyTeach 18 = .ok (.ishr, 1) := by decide +kernel
theorem dX2_onlyTeach_19 : decode cX2_onlyTeach 19 = .ok (.iconst 1, 1) := by decide +kernel
theorem dX2_onlyTeach_20 : decode cX2_onlyTeach 20 = .ok (.iand, 1) := by decide +kernel
theorem dX2_onlyTeach_21 : decode cX2_onlyTeach 21 = .ok (.ifCond .eq 11, 3) := by decide +kernel
theorem dX2_onlyTeach_24 : decode cX2_onlyTeach 24 = .ok (.aload_n 3, 1) := by decide +kernel
theorem dX2_onlyTeach_25 : decode cX2_onlyTeach 25 = .ok (.iconst 1, 1) := by decide +kernel
theorem dX2_onlyTeach_26 : decode cX2_onlyTeach 26 = .ok (.putfield 87, 3) := by decide +kernel
theorem dX2_onlyTeach_29 : decode cX2_onlyTeach 29 = .ok (.goto 16, 3) := by decide +kernel
theorem dX2_onlyTeach_32 : decode cX2_onlyTeach 32 = .ok (.aload_n 3, 1) := by decide +kernel
theorem dX2_onlyTeach_33 : decode cX2_onlyTeach 33 = .ok (.getfield 87, 3) := by decide +kernel
theorem dX2_onlyTeach_36 : decode cX2_onlyTeach 36 = .ok (.iconst 1, 1) := by decide +kernel
theorem dX2_onlyTeach_37 : decode cX2_onlyTeach 37 = .ok (.if_icmp .ne 8, 3) := by decide +kernel
theorem dX2_onlyTeach_40 : decode cX2_onlyTeach 40 = .ok (.aload_n 3, 1) := by decide +kernel
theorem dX2_onlyTeach_41 : decode cX2_onlyTeach 41 = .ok (.iconst 0, 1) := by decide +kernel
theorem dX2_onlyTeach_42 : decode cX2_onlyTeach 42 = .ok (.putfield 87, 3) := by decide +kernel
theorem dX2_onlyTeach_45 : decode cX2_onlyTeach 45 = .ok (.iinc 2 1, 3) := by decide +kernel
theorem dX2_onlyTeach_48 : decode cX2_onlyTeach 48 = .ok (.goto (-46), 3) := by decide +kernel
theorem dX2_onlyTeach_51 : decode cX2_onlyTeach 51 = .ok (.return_, 1) := by decide +kernel
theorem dX2_allKnow_0 : decode cX2_allKnow 0 = .ok (.iconst 0, 1) := by decide +kernel
theorem dX2_allKnow_1 : decode cX2_allKnow 1 = .ok (.istore_n 1, 1) := by decide +kernel
theorem dX2_allKnow_2 : decode cX2_allKnow 2 = .ok (.iload_n 1, 1) := by decide +kernel
theorem dX2_allKnow_3 : decode cX2_allKnow 3 = .ok (.aload_n 0, 1) := by decide +kernel
theorem dX2_allKnow_4 : decode cX2_allKnow 4 = .ok (.getfield 54, 3) := by decide +kernel
theorem dX2_allKnow_7 : decode cX2_allKnow 7 = .ok (.if_icmp .ge 22, 3) := by decide +kernel
theorem dX2_allKnow_10 : decode cX2_allKnow 10 = .ok (.aload_n 0, 1) := by decide +kernel
theorem dX2_allKnow_11 : decode cX2_allKnow 11 = .ok (.iload_n 1, 1) := by decide +kernel
theorem dX2_allKnow_12 : decode cX2_allKnow 12 = .ok (.invokevirtual 63, 3) := by decide +kernel
theorem dX2_allKnow_15 : decode cX2_allKnow 15 = .ok (.getfield 78, 3) := by decide +kernel
theorem dX2_allKnow_18 : decode cX2_allKnow 18 = .ok (.ifCond .gt 5, 3) := by decide +kernel
theorem dX2_allKnow_21 : decode cX2_allKnow 21 = .ok (.iconst 0, 1) := by decide +kernel
theorem dX2_allKnow_22 : decode cX2_allKnow 22 = .ok (.ireturn, 1) := by decide +kernel
theorem dX2_allKnow_23 : decode cX2_allKnow 23 = .ok (.iinc 1 1, 3) := by decide +kernel
theorem dX2_allKnow_26 : decode cX2_allKnow 26 = .ok (.goto (-24), 3) := by decide +kernel
theorem dX2_allKnow_29 : decode cX2_allKnow 29 = .ok (.iconst 1, 1) := by decide +kernel
theorem dX2_allKnow_30 : decode cX2_allKnow 30 = .ok (.ireturn, 1) := by decide +kernel
theorem dX3_init_0 : decode cX3_init 0 = .ok (.aload_n 0, 1) := by decide +kernel
theorem dX3_init_1 : decode cX3_init 1 = .ok (.invokespecial 1, 3) := by decide +kernel
theorem dX3_init_4 : decode cX3_init 4 = .ok (.return_, 1) := by decide +kernel
theorem dX3_makes_0 : decode cX3_makes 0 = .ok (.iconst 1, 1) := by decide +kernel
theorem dX3_makes_1 : decode cX3_makes 1 = .ok (.ireturn, 1) := by decide +kernel
theorem dX3_tends_0 : decode cX3_tends 0 = .ok (.iconst 1, 1) := by decide +kernel
theorem dX3_tends_1 : decode cX3_tends 1 = .ok (.ireturn, 1) := by decide +kernel
theorem dX3_digs_0 : decode cX3_digs 0 = .ok (.iconst 3, 1) := by decide +kernel
theorem dX3_digs_1 : decode cX3_digs 1 = .ok (.ireturn, 1) := by decide +kernel
theorem dX3_meal_0 : decode cX3_meal 0 = .ok (.iload_n 1, 1) := by decide +kernel
theorem dX3_meal_1 : decode cX3_meal 1 = .ok (.ireturn, 1) := by decide +kernel
theorem dX3_forgets_0 : decode cX3_forgets 0 = .ok (.iconst 1, 1) := by decide +kernel
theorem dX3_forgets_1 : decode cX3_forgets 1 = .ok (.ireturn, 1) := by decide +kernel
theorem dX3_rests_0 : decode cX3_rests 0 = .ok (.iconst 0, 1) := by decide +kernel
theorem dX3_rests_1 : decode cX3_rests 1 = .ok (.ireturn, 1) := by decide +kernel
theorem dX4_init_0 : decode cX4_init 0 = .ok (.aload_n 0, 1) := by decide +kernel
theorem dX4_init_1 : decode cX4_init 1 = .ok (.invokespecial 1, 3) := by decide +kernel
theorem dX4_init_4 : decode cX4_init 4 = .ok (.return_, 1) := by decide +kernel
theorem dX4_tends_0 : decode cX4_tends 0 = .ok (.aload_n 0, 1) := by decide +kernel
theorem dX4_tends_1 : decode cX4_tends 1 = .ok (.invokespecial 7, 3) := by decide +kernel
theorem dX4_tends_4 : decode cX4_tends 4 = .ok (.iconst 3, 1) := by decide +kernel
theorem dX4_tends_5 : decode cX4_tends 5 = .ok (.iadd, 1) := by decide +kernel
theorem dX4_tends_6 : decode cX4_tends 6 = .ok (.ireturn, 1) := by decide +kernel
theorem dX5_init_0 : decode cX5_init 0 = .ok (.aload_n 0, 1) := by decide +kernel
theorem dX5_init_1 : decode cX5_init 1 = .ok (.invokespecial 3, 3) := by decide +kernel
theorem dX5_init_4 : decode cX5_init 4 = .ok (.aload_n 0, 1) := by decide +kernel
theorem dX5_init_5 : decode cX5_init 5 = .ok (.new 9, 3) := by decide +kernel
theorem dX5_init_8 : decode cX5_init 8 = .ok (.dup, 1) := by decide +kernel
theorem dX5_init_9 : decode cX5_init 9 = .ok (.invokespecial 11, 3) := by decide +kernel
theorem dX5_init_12 : decode cX5_init 12 = .ok (.putfield 12, 3) := by decide +kernel
theorem dX5_init_15 : decode cX5_init 15 = .ok (.aload_n 0, 1) := by decide +kernel
theorem dX5_init_16 : decode cX5_init 16 = .ok (.bipush 6, 2) := by decide +kernel
theorem dX5_init_18 : decode cX5_init 18 = .ok (.anewarray 18, 3) := by decide +kernel
theorem dX5_init_21 : decode cX5_init 21 = .ok (.putfield 20, 3) := by decide +kernel
theorem dX5_init_24 : decode cX5_init 24 = .ok (.aload_n 0, 1) := by decide +kernel
theorem dX5_init_25 : decode cX5_init 25 = .ok (.new 18, 3) := by decide +kernel
theorem dX5_init_28 : decode cX5_init 28 = .ok (.dup, 1) := by decide +kernel
theorem dX5_init_29 : decode cX5_init 29 = .ok (.aload_n 1, 1) := by decide +kernel
theorem dX5_init_30 : decode cX5_init 30 = .ok (.invokespecial 24, 3) := by decide +kernel
theorem dX5_init_33 : decode cX5_init 33 = .ok (.putfield 27, 3) := by decide +kernel
theorem dX5_init_36 : decode cX5_init 36 = .ok (.iconst 0, 1) := by decide +kernel
theorem dX5_init_37 : decode cX5_init 37 = .ok (.istore_n 2, 1) := by decide +kernel
theorem dX5_init_38 : decode cX5_init 38 = .ok (.iload_n 2, 1) := by decide +kernel
theorem dX5_init_39 : decode cX5_init 39 = .ok (.aload_n 0, 1) := by decide +kernel
theorem dX5_init_40 : decode cX5_init 40 = .ok (.getfield 20, 3) := by decide +kernel
theorem dX5_init_43 : decode cX5_init 43 = .ok (.arraylength, 1) := by decide +kernel
theorem dX5_init_44 : decode cX5_init 44 = .ok (.if_icmp .ge 23, 3) := by decide +kernel
theorem dX5_init_47 : decode cX5_init 47 = .ok (.aload_n 0, 1) := by decide +kernel
theorem dX5_init_48 : decode cX5_init 48 = .ok (.getfield 20, 3) := by decide +kernel
theorem dX5_init_51 : decode cX5_init 51 = .ok (.iload_n 2, 1) := by decide +kernel
theorem dX5_init_52 : decode cX5_init 52 = .ok (.new 18, 3) := by decide +kernel
theorem dX5_init_55 : decode cX5_init 55 = .ok (.dup, 1) := by decide +kernel
theorem dX5_init_56 : decode cX5_init 56 = .ok (.aload_n 1, 1) := by decide +kernel
theorem dX5_init_57 : decode cX5_init 57 = .ok (.invokespecial 24, 3) := by decide +kernel
theorem dX5_init_60 : decode cX5_init 60 = .ok (.aastore, 1) := by decide +kernel
theorem dX5_init_61 : decode cX5_init 61 = .ok (.iinc 2 1, 3) := by decide +kernel
theorem dX5_init_64 : decode cX5_init 64 = .ok (.goto (-26), 3) := by decide +kernel
theorem dX5_init_67 : decode cX5_init 67 = .ok (.return_, 1) := by decide +kernel
theorem dX5_begin_0 : decode cX5_begin 0 = .ok (.aload_n 0, 1) := by decide +kernel
theorem dX5_begin_1 : decode cX5_begin 1 = .ok (.getfield 27, 3) := by decide +kernel
theorem dX5_begin_4 : decode cX5_begin 4 = .ok (.iload_n 1, 1) := by decide +kernel
theorem dX5_begin_5 : decode cX5_begin 5 = .ok (.invokevirtual 31, 3) := by decide +kernel
theorem dX5_begin_8 : decode cX5_begin 8 = .ok (.aload_n 0, 1) := by decide +kernel
theorem dX5_begin_9 : decode cX5_begin 9 = .ok (.getfield 12, 3) := by decide +kernel
theorem dX5_begin_12 : decode cX5_begin 12 = .ok (.invokevirtual 35, 3) := by decide +kernel
theorem dX5_begin_15 : decode cX5_begin 15 = .ok (.aload_n 0, 1) := by decide +kernel
theorem dX5_begin_16 : decode cX5_begin 16 = .ok (.iconst 0, 1) := by decide +kernel
theorem dX5_begin_17 : decode cX5_begin 17 = .ok (.putfield 37, 3) := by decide +kernel
theorem dX5_begin_20 : decode cX5_begin 20 = .ok (.return_, 1) := by decide +kernel
theorem dX5_setTo_0 : decode cX5_setTo 0 = .ok (.aload_n 0, 1) := by decide +kernel
theorem dX5_setTo_1 : decode cX5_setTo 1 = .ok (.getfield 27, 3) := by decide +kernel
theorem dX5_setTo_4 : decode cX5_setTo 4 = .ok (.aload_n 1, 1) := by decide +kernel
theorem dX5_setTo_5 : decode cX5_setTo 5 = .ok (.getfield 27, 3) := by decide +kernel
theorem dX5_setTo_8 : decode cX5_setTo 8 = .ok (.invokevirtual 41, 3) := by decide +kernel
theorem dX5_setTo_11 : decode cX5_setTo 11 = .ok (.aload_n 0, 1) := by decide +kernel
theorem dX5_setTo_12 : decode cX5_setTo 12 = .ok (.getfield 12, 3) := by decide +kernel
theorem dX5_setTo_15 : decode cX5_setTo 15 = .ok (.aload_n 1, 1) := by decide +kernel
theorem dX5_setTo_16 : decode cX5_setTo 16 = .ok (.getfield 12, 3) := by decide +kernel
theorem dX5_setTo_19 : decode cX5_setTo 19 = .ok (.invokevirtual 45, 3) := by decide +kernel
theorem dX5_setTo_22 : decode cX5_setTo 22 = .ok (.aload_n 0, 1) := by decide +kernel
theorem dX5_setTo_23 : decode cX5_setTo 23 = .ok (.aload_n 1, 1) := by decide +kernel
theorem dX5_setTo_24 : decode cX5_setTo 24 = .ok (.getfield 48, 3) := by decide +kernel
theorem dX5_setTo_27 : decode cX5_setTo 27 = .ok (.putfield 48, 3) := by decide +kernel
theorem dX5_setTo_30 : decode cX5_setTo 30 = .ok (.aload_n 0, 1) := by decide +kernel
theorem dX5_setTo_31 : decode cX5_setTo 31 = .ok (.aload_n 1, 1) := by decide +kernel
theorem dX5_setTo_32 : decode cX5_setTo 32 = .ok (.getfield 37, 3) := by decide +kernel
theorem dX5_setTo_35 : decode cX5_setTo 35 = .ok (.putfield 37, 3) := by decide +kernel
theorem dX5_setTo_38 : decode cX5_setTo 38 = .ok (.iconst 0, 1) := by decide +kernel
theorem dX5_setTo_39 : decode cX5_setTo 39 = .ok (.istore_n 2, 1) := by decide +kernel
theorem dX5_setTo_40 : decode cX5_setTo 40 = .ok (.iload_n 2, 1) := by decide +kernel
theorem dX5_setTo_41 : decode cX5_setTo 41 = .ok (.aload_n 0, 1) := by decide +kernel
theorem dX5_setTo_42 : decode cX5_setTo 42 = .ok (.getfield 20, 3) := by decide +kernel
theorem dX5_setTo_45 : decode cX5_setTo 45 = .ok (.arraylength, 1) := by decide +kernel
theorem dX5_setTo_46 : decode cX5_setTo 46 = .ok (.if_icmp .ge 43, 3) := by decide +kernel
theorem dX5_setTo_49 : decode cX5_setTo 49 = .ok (.aload_n 0, 1) := by decide +kernel
theorem dX5_setTo_50 : decode cX5_setTo 50 = .ok (.getfield 20, 3) := by decide +kernel
theorem dX5_setTo_53 : decode cX5_setTo 53 = .ok (.iload_n 2, 1) := by decide +kernel
theorem dX5_setTo_54 : decode cX5_setTo 54 = .ok (.invokestatic 51, 3) := by decide +kernel
theorem dX5_setTo_57 : decode cX5_setTo 57 = .ok (.astore_n 3, 1) := by decide +kernel
theorem dX5_setTo_58 : decode cX5_setTo 58 = .ok (.aload_n 1, 1) := by decide +kernel
theorem dX5_setTo_59 : decode cX5_setTo 59 = .ok (.getfield 20, 3) := by decide +kernel
theorem dX5_setTo_62 : decode cX5_setTo 62 = .ok (.iload_n 2, 1) := by decide +kernel
theorem dX5_setTo_63 : decode cX5_setTo 63 = .ok (.invokestatic 51, 3) := by decide +kernel
theorem dX5_setTo_66 : decode cX5_setTo 66 = .ok (.astore 4, 2) := by decide +kernel
theorem dX5_setTo_68 : decode cX5_setTo 68 = .ok (.aload_n 3, 1) := by decide +kernel
theorem dX5_setTo_69 : decode cX5_setTo 69 = .ok (.ifnull 14, 3) := by decide +kernel
theorem dX5_setTo_72 : decode cX5_setTo 72 = .ok (.aload 4, 2) := by decide +kernel
theorem dX5_setTo_74 : decode cX5_setTo 74 = .ok (.ifnull 9, 3) := by decide +kernel
theorem dX5_setTo_77 : decode cX5_setTo 77 = .ok (.aload_n 3, 1) := by decide +kernel
theorem dX5_setTo_78 : decode cX5_setTo 78 = .ok (.aload 4, 2) := by decide +kernel
theorem dX5_setTo_80 : decode cX5_setTo 80 = .ok (.invokevirtual 41, 3) := by decide +kernel
theorem dX5_setTo_83 : decode cX5_setTo 83 = .ok (.iinc 2 1, 3) := by decide +kernel
theorem dX5_setTo_86 : decode cX5_setTo 86 = .ok (.goto (-46), 3) := by decide +kernel
theorem dX5_setTo_89 : decode cX5_setTo 89 = .ok (.return_, 1) := by decide +kernel
theorem dX5_goBy_0 : decode cX5_goBy 0 = .ok (.aload_n 0, 1) := by decide +kernel
theorem dX5_goBy_1 : decode cX5_goBy 1 = .ok (.aload_n 0, 1) := by decide +kernel
theorem dX5_goBy_2 : decode cX5_goBy 2 = .ok (.getfield 48, 3) := by decide +kernel
theorem dX5_goBy_5 : decode cX5_goBy 5 = .ok (.iconst 1, 1) := by decide +kernel
theorem dX5_goBy_6 : decode cX5_goBy 6 = .ok (.iadd, 1) := by decide +kernel
theorem dX5_goBy_7 : decode cX5_goBy 7 = .ok (.bipush 6, 2) := by decide +kernel
theorem dX5_goBy_9 : decode cX5_goBy 9 = .ok (.invokestatic 55, 3) := by decide +kernel
theorem dX5_goBy_12 : decode cX5_goBy 12 = .ok (.putfield 48, 3) := by decide +kernel
theorem dX5_goBy_15 : decode cX5_goBy 15 = .ok (.aload_n 0, 1) := by decide +kernel
theorem dX5_goBy_16 : decode cX5_goBy 16 = .ok (.bipush 6, 2) := by decide +kernel
theorem dX5_goBy_18 : decode cX5_goBy 18 = .ok (.aload_n 0, 1) := by decide +kernel
