theorem dX0_init_0 : decode cX0_init 0 = .ok (.aload_n 0, 1) := by decide +kernel
theorem dX0_init_1 : decode cX0_init 1 = .ok (.invokespecial 3, 3) := by decide +kernel
theorem dX0_init_4 : decode cX0_init 4 = .ok (.aload_n 0, 1) := by decide +kernel
theorem dX0_init_5 : decode cX0_init 5 = .ok (.bipush 8, 2) := by decide +kernel
theorem dX0_init_7 : decode cX0_init 7 = .ok (.newarray .int, 2) := by decide +kernel
theorem dX0_init_9 : decode cX0_init 9 = .ok (.putfield 9, 3) := by decide +kernel
theorem dX0_init_12 : decode cX0_init 12 = .ok (.aload_n 0, 1) := by decide +kernel
theorem dX0_init_13 : decode cX0_init 13 = .ok (.bipush 8, 2) := by decide +kernel
theorem dX0_init_15 : decode cX0_init 15 = .ok (.newarray .int, 2) := by decide +kernel
theorem dX0_init_17 : decode cX0_init 17 = .ok (.putfield 15, 3) := by decide +kernel
theorem dX0_init_20 : decode cX0_init 20 = .ok (.aload_n 0, 1) := by decide +kernel
theorem dX0_init_21 : decode cX0_init 21 = .ok (.bipush 8, 2) := by decide +kernel
theorem dX0_init_23 : decode cX0_init 23 = .ok (.newarray .int, 2) := by decide +kernel
theorem dX0_init_25 : decode cX0_init 25 = .ok (.putfield 18, 3) := by decide +kernel
theorem dX0_init_28 : decode cX0_init 28 = .ok (.aload_n 0, 1) := by decide +kernel
theorem dX0_init_29 : decode cX0_init 29 = .ok (.bipush 10, 2) := by decide +kernel
theorem dX0_init_31 : decode cX0_init 31 = .ok (.newarray .int, 2) := by decide +kernel
theorem dX0_init_33 : decode cX0_init 33 = .ok (.putfield 21, 3) := by decide +kernel
theorem dX0_init_36 : decode cX0_init 36 = .ok (.aload_n 0, 1) := by decide +kernel
theorem dX0_init_37 : decode cX0_init 37 = .ok (.bipush 10, 2) := by decide +kernel
theorem dX0_init_39 : decode cX0_init 39 = .ok (.newarray .int, 2) := by decide +kernel
theorem dX0_init_41 : decode cX0_init 41 = .ok (.putfield 24, 3) := by decide +kernel
theorem dX0_init_44 : decode cX0_init 44 = .ok (.aload_n 0, 1) := by decide +kernel
theorem dX0_init_45 : decode cX0_init 45 = .ok (.bipush 10, 2) := by decide +kernel
theorem dX0_init_47 : decode cX0_init 47 = .ok (.newarray .int, 2) := by decide +kernel
theorem dX0_init_49 : decode cX0_init 49 = .ok (.putfield 27, 3) := by decide +kernel
theorem dX0_init_52 : decode cX0_init 52 = .ok (.aload_n 0, 1) := by decide +kernel
theorem dX0_init_53 : decode cX0_init 53 = .ok (.bipush 24, 2) := by decide +kernel
theorem dX0_init_55 : decode cX0_init 55 = .ok (.newarray .int, 2) := by decide +kernel
theorem dX0_init_57 : decode cX0_init 57 = .ok (.putfield 30, 3) := by decide +kernel
theorem dX0_init_60 : decode cX0_init 60 = .ok (.return_, 1) := by decide +kernel
theorem dX0_begin_0 : decode cX0_begin 0 = .ok (.aload_n 0, 1) := by decide +kernel
theorem dX0_begin_1 : decode cX0_begin 1 = .ok (.iconst 0, 1) := by decide +kernel
theorem dX0_begin_2 : decode cX0_begin 2 = .ok (.putfield 33, 3) := by decide +kernel
theorem dX0_begin_5 : decode cX0_begin 5 = .ok (.aload_n 0, 1) := by decide +kernel
theorem dX0_begin_6 : decode cX0_begin 6 = .ok (.iconst 0, 1) := by decide +kernel
theorem dX0_begin_7 : decode cX0_begin 7 = .ok (.putfield 37, 3) := by decide +kernel
theorem dX0_begin_10 : decode cX0_begin 10 = .ok (.aload_n 0, 1) := by decide +kernel
theorem dX0_begin_11 : decode cX0_begin 11 = .ok (.iconst 0, 1) := by decide +kernel
theorem dX0_begin_12 : decode cX0_begin 12 = .ok (.putfield 40, 3) := by decide +kernel
theorem dX0_begin_15 : decode cX0_begin 15 = .ok (.aload_n 0, 1) := by decide +kernel
theorem dX0_begin_16 : decode cX0_begin 16 = .ok (.iconst 0, 1) := by decide +kernel
theorem dX0_begin_17 : decode cX0_begin 17 = .ok (.putfield 43, 3) := by decide +kernel
theorem dX0_begin_20 : decode cX0_begin 20 = .ok (.return_, 1) := by decide +kernel
theorem dX0_setTo_0 : decode cX0_setTo 0 = .ok (.aload_n 0, 1) := by decide +kernel
theorem dX0_setTo_1 : decode cX0_setTo 1 = .ok (.aload_n 1, 1) := by decide +kernel
theorem dX0_setTo_2 : decode cX0_setTo 2 = .ok (.getfield 33, 3) := by decide +kernel
theorem dX0_setTo_5 : decode cX0_setTo 5 = .ok (.putfield 33, 3) := by decide +kernel
theorem dX0_setTo_8 : decode cX0_setTo 8 = .ok (.aload_n 0, 1) := by decide +kernel
theorem dX0_setTo_9 : decode cX0_setTo 9 = .ok (.aload_n 1, 1) := by decide +kernel
theorem dX0_setTo_10 : decode cX0_setTo 10 = .ok (.getfield 37, 3) := by decide +kernel
theorem dX0_setTo_13 : decode cX0_setTo 13 = .ok (.putfield 37, 3) := by decide +kernel
theorem dX0_setTo_16 : decode cX0_setTo 16 = .ok (.aload_n 0, 1) := by decide +kernel
theorem dX0_setTo_17 : decode cX0_setTo 17 = .ok (.aload_n 1, 1) := by decide +kernel
theorem dX0_setTo_18 : decode cX0_setTo 18 = .ok (.getfield 40, 3) := by decide +kernel
theorem dX0_setTo_21 : decode cX0_setTo 21 = .ok (.putfield 40, 3) := by decide +kernel
theorem dX0_setTo_24 : decode cX0_setTo 24 = .ok (.aload_n 0, 1) := by decide +kernel
theorem dX0_setTo_25 : decode cX0_setTo 25 = .ok (.aload_n 1, 1) := by decide +kernel
theorem dX0_setTo_26 : decode cX0_setTo 26 = .ok (.getfield 43, 3) := by decide +kernel
theorem dX0_setTo_29 : decode cX0_setTo 29 = .ok (.putfield 43, 3) := by decide +kernel
theorem dX0_setTo_32 : decode cX0_setTo 32 = .ok (.aload_n 1, 1) := by decide +kernel
theorem dX0_setTo_33 : decode cX0_setTo 33 = .ok (.getfield 9, 3) := by decide +kernel
theorem dX0_setTo_36 : decode cX0_setTo 36 = .ok (.aload_n 0, 1) := by decide +kernel
theorem dX0_setTo_37 : decode cX0_setTo 37 = .ok (.getfield 9, 3) := by decide +kernel
theorem dX0_setTo_40 : decode cX0_setTo 40 = .ok (.invokestatic 46, 3) := by decide +kernel
theorem dX0_setTo_43 : decode cX0_setTo 43 = .ok (.aload_n 1, 1) := by decide +kernel
theorem dX0_setTo_44 : decode cX0_setTo 44 = .ok (.getfield 15, 3) := by decide +kernel
theorem dX0_setTo_47 : decode cX0_setTo 47 = .ok (.aload_n 0, 1) := by decide +kernel
theorem dX0_setTo_48 : decode cX0_setTo 48 = .ok (.getfield 15, 3) := by decide +kernel
theorem dX0_setTo_51 : decode cX0_setTo 51 = .ok (.invokestatic 46, 3) := by decide +kernel
theorem dX0_setTo_54 : decode cX0_setTo 54 = .ok (.aload_n 1, 1) := by decide +kernel
theorem dX0_setTo_55 : decode cX0_setTo 55 = .ok (.getfield 18, 3) := by decide +kernel
theorem dX0_setTo_58 : decode cX0_setTo 58 = .ok (.aload_n 0, 1) := by decide +kernel
theorem dX0_setTo_59 : decode cX0_setTo 59 = .ok (.getfield 18, 3) := by decide +kernel
theorem dX0_setTo_62 : decode cX0_setTo 62 = .ok (.invokestatic 46, 3) := by decide +kernel
theorem dX0_setTo_65 : decode cX0_setTo 65 = .ok (.aload_n 1, 1) := by decide +kernel
theorem dX0_setTo_66 : decode cX0_setTo 66 = .ok (.getfield 21, 3) := by decide +kernel
theorem dX0_setTo_69 : decode cX0_setTo 69 = .ok (.aload_n 0, 1) := by decide +kernel
theorem dX0_setTo_70 : decode cX0_setTo 70 = .ok (.getfield 21, 3) := by decide +kernel
theorem dX0_setTo_73 : decode cX0_setTo 73 = .ok (.invokestatic 46, 3) := by decide +kernel
theorem dX0_setTo_76 : decode cX0_setTo 76 = .ok (.aload_n 1, 1) := by decide +kernel
theorem dX0_setTo_77 : decode cX0_setTo 77 = .ok (.getfield 24, 3) := by decide +kernel
theorem dX0_setTo_80 : decode cX0_setTo 80 = .ok (.aload_n 0, 1) := by decide +kernel
theorem dX0_setTo_81 : decode cX0_setTo 81 = .ok (.getfield 24, 3) := by decide +kernel
theorem dX0_setTo_84 : decode cX0_setTo 84 = .ok (.invokestatic 46, 3) := by decide +kernel
theorem dX0_setTo_87 : decode cX0_setTo 87 = .ok (.aload_n 1, 1) := by decide +kernel
theorem dX0_setTo_88 : decode cX0_setTo 88 = .ok (.getfield 27, 3) := by decide +kernel
theorem dX0_setTo_91 : decode cX0_setTo 91 = .ok (.aload_n 0, 1) := by decide +kernel
theorem dX0_setTo_92 : decode cX0_setTo 92 = .ok (.getfield 27, 3) := by decide +kernel
theorem dX0_setTo_95 : decode cX0_setTo 95 = .ok (.invokestatic 46, 3) := by decide +kernel
theorem dX0_setTo_98 : decode cX0_setTo 98 = .ok (.aload_n 1, 1) := by decide +kernel
theorem dX0_setTo_99 : decode cX0_setTo 99 = .ok (.getfield 30, 3) := by decide +kernel
theorem dX0_setTo_102 : decode cX0_setTo 102 = .ok (.aload_n 0, 1) := by decide +kernel
theorem dX0_setTo_103 : decode cX0_setTo 103 = .ok (.getfield 30, 3) := by decide +kernel
theorem dX0_setTo_106 : decode cX0_setTo 106 = .ok (.invokestatic 46, 3) := by decide +kernel
theorem dX0_setTo_109 : decode cX0_setTo 109 = .ok (.return_, 1) := by decide +kernel
theorem dX0_howMany_0 : decode cX0_howMany 0 = .ok (.iload_n 1, 1) := by decide +kernel
theorem dX0_howMany_1 : decode cX0_howMany 1 = .ok (.tableswitch 42 0 2 #[27, 32, 37], 27) := by decide +kernel
theorem dX0_howMany_28 : decode cX0_howMany 28 = .ok (.aload_n 0, 1) := by decide +kernel
theorem dX0_howMany_29 : decode cX0_howMany 29 = .ok (.getfield 37, 3) := by decide +kernel
theorem dX0_howMany_32 : decode cX0_howMany 32 = .ok (.ireturn, 1) := by decide +kernel
theorem dX0_howMany_33 : decode cX0_howMany 33 = .ok (.aload_n 0, 1) := by decide +kernel
theorem dX0_howMany_34 : decode cX0_howMany 34 = .ok (.getfield 40, 3) := by decide +kernel
theorem dX0_howMany_37 : decode cX0_howMany 37 = .ok (.ireturn, 1) := by decide +kernel
theorem dX0_howMany_38 : decode cX0_howMany 38 = .ok (.aload_n 0, 1) := by decide +kernel
theorem dX0_howMany_39 : decode cX0_howMany 39 = .ok (.getfield 43, 3) := by decide +kernel
theorem dX0_howMany_42 : decode cX0_howMany 42 = .ok (.ireturn, 1) := by decide +kernel
theorem dX0_howMany_43 : decode cX0_howMany 43 = .ok (.iconst (-1), 1) := by decide +kernel
theorem dX0_howMany_44 : decode cX0_howMany 44 = .ok (.ireturn, 1) := by decide +kernel
theorem dX0_strike_0 : decode cX0_strike 0 = .ok (.iload_n 1, 1) := by decide +kernel
theorem dX0_strike_1 : decode cX0_strike 1 = .ok (.tableswitch 51 0 2 #[27, 35, 43], 27) := by decide +kernel
theorem dX0_strike_28 : decode cX0_strike 28 = .ok (.aload_n 0, 1) := by decide +kernel
theorem dX0_strike_29 : decode cX0_strike 29 = .ok (.iconst 0, 1) := by decide +kernel
theorem dX0_strike_30 : decode cX0_strike 30 = .ok (.putfield 37, 3) := by decide +kernel
theorem dX0_strike_33 : decode cX0_strike 33 = .ok (.goto 19, 3) := by decide +kernel
theorem dX0_strike_36 : decode cX0_strike 36 = .ok (.aload_n 0, 1) := by decide +kernel
theorem dX0_strike_37 : decode cX0_strike 37 = .ok (.iconst 0, 1) := by decide +kernel
theorem dX0_strike_38 : decode cX0_strike 38 = .ok (.putfield 40, 3) := by decide +kernel
theorem dX0_strike_41 : decode cX0_strike 41 = .ok (.goto 11, 3) := by decide +kernel
theorem dX0_strike_44 : decode cX0_strike 44 = .ok (.aload_n 0, 1) := by decide +kernel
theorem dX0_strike_45 : decode cX0_strike 45 = .ok (.iconst 0, 1) := by decide +kernel
theorem dX0_strike_46 : decode cX0_strike 46 = .ok (.putfield 43, 3) := by decide +kernel
theorem dX0_strike_49 : decode cX0_strike 49 = .ok (.goto 3, 3) := by decide +kernel
theorem dX0_strike_52 : decode cX0_strike 52 = .ok (.return_, 1) := by decide +kernel
theorem dX0_addDebt_0 : decode cX0_addDebt 0 = .ok (.aload_n 0, 1) := by decide +kernel
theorem dX0_addDebt_1 : decode cX0_addDebt 1 = .ok (.getfield 9, 3) := by decide +kernel
theorem dX0_addDebt_4 : decode cX0_addDebt 4 = .ok (.aload_n 0, 1) := by decide +kernel
theorem dX0_addDebt_5 : decode cX0_addDebt 5 = .ok (.getfield 37, 3) := by decide +kernel
theorem dX0_addDebt_8 : decode cX0_addDebt 8 = .ok (.iload_n 1, 1) := by decide +kernel
theorem dX0_addDebt_9 : decode cX0_addDebt 9 = .ok (.invokestatic 50, 3) := by decide +kernel
theorem dX0_addDebt_12 : decode cX0_addDebt 12 = .ok (.aload_n 0, 1) := by decide +kernel
theorem dX0_addDebt_13 : decode cX0_addDebt 13 = .ok (.getfield 15, 3) := by decide +kernel
theorem dX0_addDebt_16 : decode cX0_addDebt 16 = .ok (.aload_n 0, 1) := by decide +kernel
theorem dX0_addDebt_17 : decode cX0_addDebt 17 = .ok (.getfield 37, 3) := by decide +kernel
theorem dX0_addDebt_20 : decode cX0_addDebt 20 = .ok (.iload_n 2, 1) := by decide +kernel
theorem dX0_addDebt_21 : decode cX0_addDebt 21 = .ok (.invokestatic 50, 3) := by decide +kernel
theorem dX0_addDebt_24 : decode cX0_addDebt 24 = .ok (.aload_n 0, 1) := by decide +kernel
theorem dX0_addDebt_25 : decode cX0_addDebt 25 = .ok (.getfield 18, 3) := by decide +kernel
theorem dX0_addDebt_28 : decode cX0_addDebt 28 = .ok (.aload_n 0, 1) := by decide +kernel
theorem dX0_addDebt_29 : decode cX0_addDebt 29 = .ok (.getfield 37, 3) := by decide +kernel
theorem dX0_addDebt_32 : decode cX0_addDebt 32 = .ok (.iload_n 3, 1) := by decide +kernel
theorem dX0_addDebt_33 : decode cX0_addDebt 33 = .ok (.invokestatic 50, 3) := by decide +kernel
theorem dX0_addDebt_36 : decode cX0_addDebt 36 = .ok (.aload_n 0, 1) := by decide +kernel
theorem dX0_addDebt_37 : decode cX0_addDebt 37 = .ok (.dup, 1) := by decide +kernel
theorem dX0_addDebt_38 : decode cX0_addDebt 38 = .ok (.getfield 37, 3) := by decide +kernel
theorem dX0_addDebt_41 : decode cX0_addDebt 41 = .ok (.dup_x1, 1) := by decide +kernel
theorem dX0_addDebt_42 : decode cX0_addDebt 42 = .ok (.iconst 1, 1) := by decide +kernel
theorem dX0_addDebt_43 : decode cX0_addDebt 43 = .ok (.iadd, 1) := by decide +kernel
theorem dX0_addDebt_44 : decode cX0_addDebt 44 = .ok (.putfield 37, 3) := by decide +kernel
theorem dX0_addDebt_47 : decode cX0_addDebt 47 = .ok (.ireturn, 1) := by decide +kernel
theorem dX0_addReport_0 : decode cX0_addReport 0 = .ok (.aload_n 0, 1) := by decide +kernel
theorem dX0_addReport_1 : decode cX0_addReport 1 = .ok (.getfield 21, 3) := by decide +kernel
theorem dX0_addReport_4 : decode cX0_addReport 4 = .ok (.aload_n 0, 1) := by decide +kernel
theorem dX0_addReport_5 : decode cX0_addReport 5 = .ok (.getfield 40, 3) := by decide +kernel
theorem dX0_addReport_8 : decode cX0_addReport 8 = .ok (.iload_n 1, 1) := by decide +kernel
theorem dX0_addReport_9 : decode cX0_addReport 9 = .ok (.invokestatic 50, 3) := by decide +kernel
theorem dX0_addReport_12 : decode cX0_addReport 12 = .ok (.aload_n 0, 1) := by decide +kernel
theorem dX0_addReport_13 : decode cX0_addReport 13 = .ok (.getfield 24, 3) := by decide +kernel
theorem dX0_addReport_16 : decode cX0_addReport 16 = .ok (.aload_n 0, 1) := by decide +kernel
theorem dX0_addReport_17 : decode cX0_addReport 17 = .ok (.getfield 40, 3) := by decide +kernel
theorem dX0_addReport_20 : decode cX0_addReport 20 = .ok (.iload_n 2, 1) := by decide +kernel
theorem dX0_addReport_21 : decode cX0_addReport 21 = .ok (.invokestatic 50, 3) := by decide +kernel
theorem dX0_addReport_24 : decode cX0_addReport 24 = .ok (.aload_n 0, 1) := by decide +kernel
theorem dX0_addReport_25 : decode cX0_addReport 25 = .ok (.getfield 27, 3) := by decide +kernel
theorem dX0_addReport_28 : decode cX0_addReport 28 = .ok (.aload_n 0, 1) := by decide +kernel
theorem dX0_addReport_29 : decode cX0_addReport 29 = .ok (.getfield 40, 3) := by decide +kernel
theorem dX0_addReport_32 : decode cX0_addReport 32 = .ok (.iload_n 3, 1) := by decide +kernel
theorem dX0_addReport_33 : decode cX0_addReport 33 = .ok (.invokestatic 50, 3) := by decide +kernel
theorem dX0_addReport_36 : decode cX0_addReport 36 = .ok (.aload_n 0, 1) := by decide +kernel
theorem dX0_addReport_37 : decode cX0_addReport 37 = .ok (.dup, 1) := by decide +kernel
theorem dX0_addReport_38 : decode cX0_addReport 38 = .ok (.getfield 40, 3) := by decide +kernel
theorem dX0_addReport_41 : decode cX0_addReport 41 = .ok (.dup_x1, 1) := by decide +kernel
theorem dX0_addReport_42 : decode cX0_addReport 42 = .ok (.iconst 1, 1) := by decide +kernel
theorem dX0_addReport_43 : decode cX0_addReport 43 = .ok (.iadd, 1) := by decide +kernel
theorem dX0_addReport_44 : decode cX0_addReport 44 = .ok (.putfield 40, 3) := by decide +kernel
theorem dX0_addReport_47 : decode cX0_addReport 47 = .ok (.ireturn, 1) := by decide +kernel
theorem dX0_addWord_0 : decode cX0_addWord 0 = .ok (.iconst 0, 1) := by decide +kernel
theorem dX0_addWord_1 : decode cX0_addWord 1 = .ok (.istore_n 2, 1) := by decide +kernel
theorem dX0_addWord_2 : decode cX0_addWord 2 = .ok (.iload_n 2, 1) := by decide +kernel
theorem dX0_addWord_3 : decode cX0_addWord 3 = .ok (.bipush 6, 2) := by decide +kernel
theorem dX0_addWord_5 : decode cX0_addWord 5 = .ok (.if_icmp .ge 30, 3) := by decide +kernel
theorem dX0_addWord_8 : decode cX0_addWord 8 = .ok (.aload_n 0, 1) := by decide +kernel
theorem dX0_addWord_9 : decode cX0_addWord 9 = .ok (.getfield 30, 3) := by decide +kernel
theorem dX0_addWord_12 : decode cX0_addWord 12 = .ok (.aload_n 0, 1) := by decide +kernel
theorem dX0_addWord_13 : decode cX0_addWord 13 = .ok (.getfield 43, 3) := by decide +kernel
theorem dX0_addWord_16 : decode cX0_addWord 16 = .ok (.bipush 6, 2) := by decide +kernel
theorem dX0_addWord_18 : decode cX0_addWord 18 = .ok (.imul, 1) := by decide +kernel
theorem dX0_addWord_19 : decode cX0_addWord 19 = .ok (.iload_n 2, 1) := by decide +kernel
theorem dX0_addWord_20 : decode cX0_addWord 20 = .ok (.iadd, 1) := by decide +kernel
theorem dX0_addWord_21 : decode cX0_addWord 21 = .ok (.aload_n 1, 1) := by decide +kernel
theorem dX0_addWord_22 : decode cX0_addWord 22 = .ok (.iload_n 2, 1) := by decide +kernel
theorem dX0_addWord_23 : decode cX0_addWord 23 = .ok (.invokestatic 54, 3) := by decide +kernel
theorem dX0_addWord_26 : decode cX0_addWord 26 = .ok (.invokestatic 50, 3) := by decide +kernel
theorem dX0_addWord_29 : decode cX0_addWord 29 = .ok (.iinc 2 1, 3) := by decide +kernel
theorem dX0_addWord_32 : decode cX0_addWord 32 = .ok (.goto (-30), 3) := by decide +kernel
theorem dX0_addWord_35 : decode cX0_addWord 35 = .ok (.aload_n 0, 1) := by decide +kernel
theorem dX0_addWord_36 : decode cX0_addWord 36 = .ok (.dup, 1) := by decide +kernel
theorem dX0_addWord_37 : decode cX0_addWord 37 = .ok (.getfield 43, 3) := by decide +kernel
theorem dX0_addWord_40 : decode cX0_addWord 40 = .ok (.dup_x1, 1) := by decide +kernel
theorem dX0_addWord_41 : decode cX0_addWord 41 = .ok (.iconst 1, 1) := by decide +kernel
theorem dX0_addWord_42 : decode cX0_addWord 42 = .ok (.iadd, 1) := by decide +kernel
theorem dX0_addWord_43 : decode cX0_addWord 43 = .ok (.putfield 43, 3) := by decide +kernel
theorem dX0_addWord_46 : decode cX0_addWord 46 = .ok (.ireturn, 1) := by decide +kernel
theorem dX0_balance_0 : decode cX0_balance 0 = .ok (.iconst 0, 1) := by decide +kernel
theorem dX0_balance_1 : decode cX0_balance 1 = .ok (.istore_n 3, 1) := by decide +kernel
theorem dX0_balance_2 : decode cX0_balance 2 = .ok (.iconst 0, 1) := by decide +kernel
theorem dX0_balance_3 : decode cX0_balance 3 = .ok (.istore 4, 2) := by decide +kernel
theorem dX0_balance_5 : decode cX0_balance 5 = .ok (.iload 4, 2) := by decide +kernel
theorem dX0_balance_7 : decode cX0_balance 7 = .ok (.aload_n 0, 1) := by decide +kernel
theorem dX0_balance_8 : decode cX0_balance 8 = .ok (.getfield 37, 3) := by decide +kernel
theorem dX0_balance_11 : decode cX0_balance 11 = .ok (.if_icmp .ge 73, 3) := by decide +kernel
theorem dX0_balance_14 : decode cX0_balance 14 = .ok (.aload_n 0, 1) := by decide +kernel
theorem dX0_balance_15 : decode cX0_balance 15 = .ok (.getfield 18, 3) := by decide +kernel
theorem dX0_balance_18 : decode cX0_balance 18 = .ok (.iload 4, 2) := by decide +kernel
theorem dX0_balance_20 : decode cX0_balance 20 = .ok (.invokestatic 54, 3) := by decide +kernel
theorem dX0_balance_23 : decode cX0_balance 23 = .ok (.istore 5, 2) := by decide +kernel
theorem dX0_balance_25 : decode cX0_balance 25 = .ok (.iload 5, 2) := by decide +kernel
theorem dX0_balance_27 : decode cX0_balance 27 = .ok (.iload 5, 2) := by decide +kernel
theorem dX0_balance_29 : decode cX0_balance 29 = .ok (.aload_n 0, 1) := by decide +kernel
theorem dX0_balance_30 : decode cX0_balance 30 = .ok (.getfield 33, 3) := by decide +kernel
theorem dX0_balance_33 : decode cX0_balance 33 = .ok (.imul, 1) := by decide +kernel
theorem dX0_balance_34 : decode cX0_balance 34 = .ok (.iload_n 2, 1) := by decide +kernel
theorem dX0_balance_35 : decode cX0_balance 35 = .ok (.imul, 1) := by decide +kernel
theorem dX0_balance_36 : decode cX0_balance 36 = .ok (.bipush 100, 2) := by decide +kernel
theorem dX0_balance_38 : decode cX0_balance 38 = .ok (.idiv, 1) := by decide +kernel
theorem dX0_balance_39 : decode cX0_balance 39 = .ok (.iadd, 1) := by decide +kernel
theorem dX0_balance_40 : decode cX0_balance 40 = .ok (.istore 6, 2) := by decide +kernel
theorem dX0_balance_42 : decode cX0_balance 42 = .ok (.aload_n 0, 1) := by decide +kernel
theorem dX0_balance_43 : decode cX0_balance 43 = .ok (.getfield 15, 3) := by decide +kernel
theorem dX0_balance_46 : decode cX0_balance 46 = .ok (.iload 4, 2) := by decide +kernel
theorem dX0_balance_48 : decode cX0_balance 48 = .ok (.invokestatic 54, 3) := by decide +kernel
theorem dX0_balance_51 : decode cX0_balance 51 = .ok (.iload_n 1, 1) := by decide +kernel
theorem dX0_balance_52 : decode cX0_balance 52 = .ok (.if_icmp .ne 8, 3) := by decide +kernel
theorem dX0_balance_55 : decode cX0_balance 55 = .ok (.iload_n 3, 1) := by decide +kernel
theorem dX0_balance_56 : decode cX0_balance 56 = .ok (.iload 6, 2) := by decide +kernel
theorem dX0_balance_58 : decode cX0_balance 58 = .ok (.iadd, 1) := by decide +kernel
theorem dX0_balance_59 : decode cX0_balance 59 = .ok (.istore_n 3, 1) := by decide +kernel
theorem dX0_balance_60 : decode cX0_balance 60 = .ok (.aload_n 0, 1) := by decide +kernel
theorem dX0_balance_61 : decode cX0_balance 61 = .ok (.getfield 9, 3) := by decide +kernel
theorem dX0_balance_64 : decode cX0_balance 64 = .ok (.iload 4, 2) := by decide +kernel
theorem dX0_balance_66 : decode cX0_balance 66 = .ok (.invokestatic 54, 3) := by decide +kernel
theorem dX0_balance_69 : decode cX0_balance 69 = .ok (.iload_n 1, 1) := by decide +kernel
theorem dX0_balance_70 : decode cX0_balance 70 = .ok (.if_icmp .ne 8, 3) := by decide +kernel
theorem dX0_balance_73 : decode cX0_balance 73 = .ok (.iload_n 3, 1) := by decide +kernel
theorem dX0_balance_74 : decode cX0_balance 74 = .ok (.iload 6, 2) := by decide +kernel
theorem dX0_balance_76 : decode cX0_balance 76 = .ok (.isub, 1) := by decide +kernel
theorem dX0_balance_77 : decode cX0_balance 77 = .ok (.istore_n 3, 1) := by decide +kernel
theorem dX0_balance_78 : decode cX0_balance 78 = .ok (.iinc 4 1, 3) := by decide +kernel
theorem dX0_balance_81 : decode cX0_balance 81 = .ok (.goto (-76), 3) := by decide +kernel
theorem dX0_balance_84 : decode cX0_balance 84 = .ok (.iload_n 3, 1) := by decide +kernel
theorem dX0_balance_85 : decode cX0_balance 85 = .ok (.ireturn, 1) := by decide +kernel
theorem dX0_fewestLiars_0 : decode cX0_fewestLiars 0 = .ok (.iconst 1, 1) := by decide +kernel
theorem dX0_fewestLiars_1 : decode cX0_fewestLiars 1 = .ok (.iload_n 1, 1) := by decide +kernel
theorem dX0_fewestLiars_2 : decode cX0_fewestLiars 2 = .ok (.ishl, 1) := by decide +kernel
theorem dX0_fewestLiars_3 : decode cX0_fewestLiars 3 = .ok (.iconst 1, 1) := by decide +kernel
theorem dX0_fewestLiars_4 : decode cX0_fewestLiars 4 = .ok (.isub, 1) := by decide +kernel
theorem dX0_fewestLiars_5 : decode cX0_fewestLiars 5 = .ok (.istore_n 2, 1) := by decide +kernel
theorem dX0_fewestLiars_6 : decode cX0_fewestLiars 6 = .ok (.iload_n 2, 1) := by decide +kernel
theorem dX0_fewestLiars_7 : decode cX0_fewestLiars 7 = .ok (.istore_n 3, 1) := by decide +kernel
theorem dX0_fewestLiars_8 : decode cX0_fewestLiars 8 = .ok (.iconst 0, 1) := by decide +kernel
theorem dX0_fewestLiars_9 : decode cX0_fewestLiars 9 = .ok (.istore 4, 2) := by decide +kernel
theorem dX0_fewestLiars_11 : decode cX0_fewestLiars 11 = .ok (.iload 4, 2) := by decide +kernel
theorem dX0_fewestLiars_13 : decode cX0_fewestLiars 13 = .ok (.iload_n 2, 1) := by decide +kernel
theorem dX0_fewestLiars_14 : decode cX0_fewestLiars 14 = .ok (.if_icmp .gt 33, 3) := by decide +kernel
theorem dX0_fewestLiars_17 : decode cX0_fewestLiars 17 = .ok (.aload_n 0, 1) := by decide +kernel
theorem dX0_fewestLiars_18 : decode cX0_fewestLiars 18 = .ok (.iload 4, 2) := by decide +kernel
theorem dX0_fewestLiars_20 : decode cX0_fewestLiars 20 = .ok (.invokevirtual 58, 3) := by decide +kernel
theorem dX0_fewestLiars_23 : decode cX0_fewestLiars 23 = .ok (.ifCond .eq 18, 3) := by decide +kernel
theorem dX0_fewestLiars_26 : decode cX0_fewestLiars 26 = .ok (.iload 4, 2) := by decide +kernel
theorem dX0_fewestLiars_28 : decode cX0_fewestLiars 28 = .ok (.invokestatic 62, 3) := by decide +kernel
theorem dX0_fewestLiars_31 : decode cX0_fewestLiars 31 = .ok (.iload_n 3, 1) := by decide +kernel
theorem dX0_fewestLiars_32 : decode cX0_fewestLiars 32 = .ok (.invokestatic 62, 3) := by decide +kernel
theorem dX0_fewestLiars_35 : decode cX0_fewestLiars 35 = .ok (.if_icmp .ge 6, 3) := by decide +kernel
theorem dX0_fewestLiars_38 : decode cX0_fewestLiars 38 = .ok (.iload 4, 2) := by decide +kernel
theorem dX0_fewestLiars_40 : decode cX0_fewestLiars 40 = .ok (.istore_n 3, 1) := by decide +kernel
theorem dX0_fewestLiars_41 : decode cX0_fewestLiars 41 = .ok (.iinc 4 1, 3) := by decide +kernel
theorem dX0_fewestLiars_44 : decode cX0_fewestLiars 44 = .ok (.goto (-33), 3) := by decide +kernel
theorem dX0_fewestLiars_47 : decode cX0_fewestLiars 47 = .ok (.iload_n 3, 1) := by decide +kernel
theorem dX0_fewestLiars_48 : decode cX0_fewestLiars 48 = .ok (.ireturn, 1) := by decide +kernel
theorem dX0_sureLiars_0 : decode cX0_sureLiars 0 = .ok (.iconst 1, 1) := by decide +kernel
theorem dX0_sureLiars_1 : decode cX0_sureLiars 1 = .ok (.iload_n 1, 1) := by decide +kernel
theorem dX0_sureLiars_2 : decode cX0_sureLiars 2 = .ok (.ishl, 1) := by decide +kernel
theorem dX0_sureLiars_3 : decode cX0_sureLiars 3 = .ok (.iconst 1, 1) := by decide +kernel
theorem dX0_sureLiars_4 : decode cX0_sureLiars 4 = .ok (.isub, 1) := by decide +kernel
theorem dX0_sureLiars_5 : decode cX0_sureLiars 5 = .ok (.istore_n 2, 1) := by decide +kernel
theorem dX0_sureLiars_6 : decode cX0_sureLiars 6 = .ok (.iload_n 2, 1) := by decide +kernel
theorem dX0_sureLiars_7 : decode cX0_sureLiars 7 = .ok (.istore_n 3, 1) := by decide +kernel
theorem dX0_sureLiars_8 : decode cX0_sureLiars 8 = .ok (.iconst 0, 1) := by decide +kernel
theorem dX0_sureLiars_9 : decode cX0_sureLiars 9 = .ok (.istore 4, 2) := by decide +kernel
theorem dX0_sureLiars_11 : decode cX0_sureLiars 11 = .ok (.iload 4, 2) := by decide +kernel
theorem dX0_sureLiars_13 : decode cX0_sureLiars 13 = .ok (.iload_n 2, 1) := by decide +kernel
theorem dX0_sureLiars_14 : decode cX0_sureLiars 14 = .ok (.if_icmp .gt 23, 3) := by decide +kernel
theorem dX0_sureLiars_17 : decode cX0_sureLiars 17 = .ok (.aload_n 0, 1) := by decide +kernel
theorem dX0_sureLiars_18 : decode cX0_sureLiars 18 = .ok (.iload 4, 2) := by decide +kernel
theorem dX0_sureLiars_20 : decode cX0_sureLiars 20 = .ok (.invokevirtual 58, 3) := by decide +kernel
theorem dX0_sureLiars_23 : decode cX0_sureLiars 23 = .ok (.ifCond .eq 8, 3) := by decide +kernel
theorem dX0_sureLiars_26 : decode cX0_sureLiars 26 = .ok (.iload_n 3, 1) := by decide +kernel
theorem dX0_sureLiars_27 : decode cX0_sureLiars 27 = .ok (.iload 4, 2) := by decide +kernel
theorem dX0_sureLiars_29 : decode cX0_sureLiars 29 = .ok (.iand, 1) := by decide +kernel
theorem dX0_sureLiars_30 : decode cX0_sureLiars 30 = .ok (.istore_n 3, 1) := by decide +kernel
theorem dX0_sureLiars_31 : decode cX0_sureLiars 31 = .ok (.iinc 4 1, 3) := by decide +kernel
theorem dX0_sureLiars_34 : decode cX0_sureLiars 34 = .ok (.goto (-23), 3) := by decide +kernel
theorem dX0_sureLiars_37 : decode cX0_sureLiars 37 = .ok (.iload_n 3, 1) := by decide +kernel
theorem dX0_sureLiars_38 : decode cX0_sureLiars 38 = .ok (.ireturn, 1) := by decide +kernel
theorem dX0_alikeWithout_0 : decode cX0_alikeWithout 0 = .ok (.iconst 0, 1) := by decide +kernel
theorem dX0_alikeWithout_1 : decode cX0_alikeWithout 1 = .ok (.istore_n 2, 1) := by decide +kernel
theorem dX0_alikeWithout_2 : decode cX0_alikeWithout 2 = .ok (.iload_n 2, 1) := by decide +kernel
theorem dX0_alikeWithout_3 : decode cX0_alikeWithout 3 = .ok (.aload_n 0, 1) := by decide +kernel
theorem dX0_alikeWithout_4 : decode cX0_alikeWithout 4 = .ok (.getfield 40, 3) := by decide +kernel
theorem dX0_alikeWithout_7 : decode cX0_alikeWithout 7 = .ok (.if_icmp .ge 51, 3) := by decide +kernel
theorem dX0_alikeWithout_10 : decode cX0_alikeWithout 10 = .ok (.iconst 0, 1) := by decide +kernel
theorem dX0_alikeWithout_11 : decode cX0_alikeWithout 11 = .ok (.istore_n 3, 1) := by decide +kernel
theorem dX0_alikeWithout_12 : decode cX0_alikeWithout 12 = .ok (.iload_n 3, 1) := by decide +kernel
theorem dX0_alikeWithout_13 : decode cX0_alikeWithout 13 = .ok (.iload_n 2, 1) := by decide +kernel
theorem dX0_alikeWithout_14 : decode cX0_alikeWithout 14 = .ok (.if_icmp .ge 38, 3) := by decide +kernel
theorem dX0_alikeWithout_17 : decode cX0_alikeWithout 17 = .ok (.aload_n 0, 1) := by decide +kernel
theorem dX0_alikeWithout_18 : decode cX0_alikeWithout 18 = .ok (.iload_n 2, 1) := by decide +kernel
theorem dX0_alikeWithout_19 : decode cX0_alikeWithout 19 = .ok (.iload_n 1, 1) := by decide +kernel
theorem dX0_alikeWithout_20 : decode cX0_alikeWithout 20 = .ok (.invokevirtual 68, 3) := by decide +kernel
theorem dX0_alikeWithout_23 : decode cX0_alikeWithout 23 = .ok (.ifCond .eq 23, 3) := by decide +kernel
theorem dX0_alikeWithout_26 : decode cX0_alikeWithout 26 = .ok (.aload_n 0, 1) := by decide +kernel
theorem dX0_alikeWithout_27 : decode cX0_alikeWithout 27 = .ok (.iload_n 3, 1) := by decide +kernel
theorem dX0_alikeWithout_28 : decode cX0_alikeWithout 28 = .ok (.iload_n 1, 1) := by decide +kernel
theorem dX0_alikeWithout_29 : decode cX0_alikeWithout 29 = .ok (.invokevirtual 68, 3) := by decide +kernel
theorem dX0_alikeWithout_32 : decode cX0_alikeWithout 32 = .ok (.ifCond .eq 14, 3) := by decide +kernel
theorem dX0_alikeWithout_35 : decode cX0_alikeWithout 35 = .ok (.aload_n 0, 1) := by decide +kernel
theorem dX0_alikeWithout_36 : decode cX0_alikeWithout 36 = .ok (.iload_n 2, 1) := by decide +kernel
theorem dX0_alikeWithout_37 : decode cX0_alikeWithout 37 = .ok (.iload_n 3, 1) := by decide +kernel
theorem dX0_alikeWithout_38 : decode cX0_alikeWithout 38 = .ok (.invokevirtual 72, 3) := by decide +kernel
theorem dX0_alikeWithout_41 : decode cX0_alikeWithout 41 = .ok (.ifCond .eq 5, 3) := by decide +kernel
theorem dX0_alikeWithout_44 : decode cX0_alikeWithout 44 = .ok (.iconst 0, 1) := by decide +kernel
theorem dX0_alikeWithout_45 : decode cX0_alikeWithout 45 = .ok (.ireturn, 1) := by decide +kernel
theorem dX0_alikeWithout_46 : decode cX0_alikeWithout 46 = .ok (.iinc 3 1, 3) := by decide +kernel
theorem dX0_alikeWithout_49 : decode cX0_alikeWithout 49 = .ok (.goto (-37), 3) := by decide +kernel
theorem dX0_alikeWithout_52 : decode cX0_alikeWithout 52 = .ok (.iinc 2 1, 3) := by decide +kernel
theorem dX0_alikeWithout_55 : decode cX0_alikeWithout 55 = .ok (.goto (-53), 3) := by decide +kernel
theorem dX0_alikeWithout_58 : decode cX0_alikeWithout 58 = .ok (.iconst 1, 1) := by decide +kernel
theorem dX0_alikeWithout_59 : decode cX0_alikeWithout 59 = .ok (.ireturn, 1) := by decide +kernel
theorem dX0_isTold_0 : decode cX0_isTold 0 = .ok (.iload_n 2, 1) := by decide +kernel
theorem dX0_isTold_1 : decode cX0_isTold 1 = .ok (.aload_n 0, 1) := by decide +kernel
theorem dX0_isTold_2 : decode cX0_isTold 2 = .ok (.getfield 24, 3) := by decide +kernel
theorem dX0_isTold_5 : decode cX0_isTold 5 = .ok (.iload_n 1, 1) := by decide +kernel
theorem dX0_isTold_6 : decode cX0_isTold 6 = .ok (.invokestatic 54, 3) := by decide +kernel
theorem dX0_isTold_9 : decode cX0_isTold 9 = .ok (.ishr, 1) := by decide +kernel
theorem dX0_isTold_10 : decode cX0_isTold 10 = .ok (.iconst 1, 1) := by decide +kernel
theorem dX0_isTold_11 : decode cX0_isTold 11 = .ok (.iand, 1) := by decide +kernel
theorem dX0_isTold_12 : decode cX0_isTold 12 = .ok (.ifCond .ne 7, 3) := by decide +kernel
theorem dX0_isTold_15 : decode cX0_isTold 15 = .ok (.iconst 1, 1) := by decide +kernel
theorem dX0_isTold_16 : decode cX0_isTold 16 = .ok (.goto 4, 3) := by decide +kernel
theorem dX0_isTold_19 : decode cX0_isTold 19 = .ok (.iconst 0, 1) := by decide +kernel
theorem dX0_isTold_20 : decode cX0_isTold 20 = .ok (.ireturn, 1) := by decide +kernel
theorem dX0_differ_0 : decode cX0_differ 0 = .ok (.aload_n 0, 1) := by decide +kernel
theorem dX0_differ_1 : decode cX0_differ 1 = .ok (.getfield 21, 3) := by decide +kernel
theorem dX0_differ_4 : decode cX0_differ 4 = .ok (.iload_n 1, 1) := by decide +kernel
theorem dX0_differ_5 : decode cX0_differ 5 = .ok (.invokestatic 54, 3) := by decide +kernel
theorem dX0_differ_8 : decode cX0_differ 8 = .ok (.aload_n 0, 1) := by decide +kernel
theorem dX0_differ_9 : decode cX0_differ 9 = .ok (.getfield 21, 3) := by decide +kernel
theorem dX0_differ_12 : decode cX0_differ 12 = .ok (.iload_n 2, 1) := by decide +kernel
theorem dX0_differ_13 : decode cX0_differ 13 = .ok (.invokestatic 54, 3) := by decide +kernel
theorem dX0_differ_16 : decode cX0_differ 16 = .ok (.if_icmp .ne 26, 3) := by decide +kernel
theorem dX0_differ_19 : decode cX0_differ 19 = .ok (.aload_n 0, 1) := by decide +kernel
theorem dX0_differ_20 : decode cX0_differ 20 = .ok (.getfield 27, 3) := by decide +kernel
theorem dX0_differ_23 : decode cX0_differ 23 = .ok (.iload_n 1, 1) := by decide +kernel
theorem dX0_differ_24 : decode cX0_differ 24 = .ok (.invokestatic 54, 3) := by decide +kernel
theorem dX0_differ_27 : decode cX0_differ 27 = .ok (.aload_n 0, 1) := by decide +kernel
theorem dX0_differ_28 : decode cX0_differ 28 = .ok (.getfield 27, 3) := by decide +kernel
theorem dX0_differ_31 : decode cX0_differ 31 = .ok (.iload_n 2, 1) := by decide +kernel
theorem dX0_differ_32 : decode cX0_differ 32 = .ok (.invokestatic 54, 3) := by decide +kernel
theorem dX0_differ_35 : decode cX0_differ 35 = .ok (.if_icmp .eq 7, 3) := by decide +kernel
theorem dX0_differ_38 : decode cX0_differ 38 = .ok (.iconst 1, 1) := by decide +kernel
theorem dX0_differ_39 : decode cX0_differ 39 = .ok (.goto 4, 3) := by decide +kernel
theorem dX0_differ_42 : decode cX0_differ 42 = .ok (.iconst 0, 1) := by decide +kernel
theorem dX0_differ_43 : decode cX0_differ 43 = .ok (.ireturn, 1) := by decide +kernel
theorem dX0_letter_0 : decode cX0_letter 0 = .ok (.aload_n 0, 1) := by decide +kernel
theorem dX0_letter_1 : decode cX0_letter 1 = .ok (.getfield 30, 3) := by decide +kernel
theorem dX0_letter_4 : decode cX0_letter 4 = .ok (.iload_n 1, 1) := by decide +kernel
theorem dX0_letter_5 : decode cX0_letter 5 = .ok (.bipush 6, 2) := by decide +kernel
theorem dX0_letter_7 : decode cX0_letter 7 = .ok (.imul, 1) := by decide +kernel
theorem dX0_letter_8 : decode cX0_letter 8 = .ok (.iload_n 2, 1) := by decide +kernel
theorem dX0_letter_9 : decode cX0_letter 9 = .ok (.iadd, 1) := by decide +kernel
theorem dX0_letter_10 : decode cX0_letter 10 = .ok (.invokestatic 54, 3) := by decide +kernel
theorem dX0_letter_13 : decode cX0_letter 13 = .ok (.ireturn, 1) := by decide +kernel
theorem dX0_wordsApart_0 : decode cX0_wordsApart 0 = .ok (.iconst 0, 1) := by decide +kernel
theorem dX0_wordsApart_1 : decode cX0_wordsApart 1 = .ok (.istore_n 3, 1) := by decide +kernel
theorem dX0_wordsApart_2 : decode cX0_wordsApart 2 = .ok (.iconst 0, 1) := by decide +kernel
theorem dX0_wordsApart_3 : decode cX0_wordsApart 3 = .ok (.istore 4, 2) := by decide +kernel
theorem dX0_wordsApart_5 : decode cX0_wordsApart 5 = .ok (.iload 4, 2) := by decide +kernel
theorem dX0_wordsApart_7 : decode cX0_wordsApart 7 = .ok (.bipush 6, 2) := by decide +kernel
theorem dX0_wordsApart_9 : decode cX0_wordsApart 9 = .ok (.if_icmp .ge 29, 3) := by decide +kernel
theorem dX0_wordsApart_12 : decode cX0_wordsApart 12 = .ok (.aload_n 0, 1) := by decide +kernel
theorem dX0_wordsApart_13 : decode cX0_wordsApart 13 = .ok (.iload_n 1, 1) := by decide +kernel
theorem dX0_wordsApart_14 : decode cX0_wordsApart 14 = .ok (.iload 4, 2) := by decide +kernel
theorem dX0_wordsApart_16 : decode cX0_wordsApart 16 = .ok (.invokevirtual 75, 3) := by decide +kernel
theorem dX0_wordsApart_19 : decode cX0_wordsApart 19 = .ok (.aload_n 0, 1) := by decide +kernel
theorem dX0_wordsApart_20 : decode cX0_wordsApart 20 = .ok (.iload_n 2, 1) := by decide +kernel
theorem dX0_wordsApart_21 : decode cX0_wordsApart 21 = .ok (.iload 4, 2) := by decide +kernel
theorem dX0_wordsApart_23 : decode cX0_wordsApart 23 = .ok (.invokevirtual 75, 3) := by decide +kernel
theorem dX0_wordsApart_26 : decode cX0_wordsApart 26 = .ok (.if_icmp .eq 6, 3) := by decide +kernel
theorem dX0_wordsApart_29 : decode cX0_wordsApart 29 = .ok (.iinc 3 1, 3) := by decide +kernel
theorem dX0_wordsApart_32 : decode cX0_wordsApart 32 = .ok (.iinc 4 1, 3) := by decide +kernel
theorem dX0_wordsApart_35 : decode cX0_wordsApart 35 = .ok (.goto (-30), 3) := by decide +kernel
theorem dX0_wordsApart_38 : decode cX0_wordsApart 38 = .ok (.iload_n 3, 1) := by decide +kernel
theorem dX0_wordsApart_39 : decode cX0_wordsApart 39 = .ok (.ireturn, 1) := by decide +kernel
theorem dX0_nearestPair_0 : decode cX0_nearestPair 0 = .ok (.iconst (-1), 1) := by decide +kernel
theorem dX0_nearestPair_1 : decode cX0_nearestPair 1 = .ok (.istore_n 1, 1) := by decide +kernel
theorem dX0_nearestPair_2 : decode cX0_nearestPair 2 = .ok (.iconst 1, 1) := by decide +kernel
theorem dX0_nearestPair_3 : decode cX0_nearestPair 3 = .ok (.istore_n 2, 1) := by decide +kernel
theorem dX0_nearestPair_4 : decode cX0_nearestPair 4 = .ok (.iload_n 2, 1) := by decide +kernel
theorem dX0_nearestPair_5 : decode cX0_nearestPair 5 = .ok (.aload_n 0, 1) := by decide +kernel
theorem dX0_nearestPair_6 : decode cX0_nearestPair 6 = .ok (.getfield 43, 3) := by decide +kernel
theorem dX0_nearestPair_9 : decode cX0_nearestPair 9 = .ok (.if_icmp .ge 44, 3) := by decide +kernel
theorem dX0_nearestPair_12 : decode cX0_nearestPair 12 = .ok (.iconst 0, 1) := by decide +kernel
theorem dX0_nearestPair_13 : decode cX0_nearestPair 13 = .ok (.istore_n 3, 1) := by decide +kernel
theorem dX0_nearestPair_14 : decode cX0_nearestPair 14 = .ok (.iload_n 3, 1) := by decide +kernel
theorem dX0_nearestPair_15 : decode cX0_nearestPair 15 = .ok (.iload_n 2, 1) := by decide +kernel
theorem dX0_nearestPair_16 : decode cX0_nearestPair 16 = .ok (.if_icmp .ge 31, 3) := by decide +kernel
theorem dX0_nearestPair_19 : decode cX0_nearestPair 19 = .ok (.aload_n 0, 1) := by decide +kernel
theorem dX0_nearestPair_20 : decode cX0_nearestPair 20 = .ok (.iload_n 3, 1) := by decide +kernel
theorem dX0_nearestPair_21 : decode cX0_nearestPair 21 = .ok (.iload_n 2, 1) := by decide +kernel
theorem dX0_nearestPair_22 : decode cX0_nearestPair 22 = .ok (.invokevirtual 79, 3) := by decide +kernel
theorem dX0_nearestPair_25 : decode cX0_nearestPair 25 = .ok (.istore 4, 2) := by decide +kernel
theorem dX0_nearestPair_27 : decode cX0_nearestPair 27 = .ok (.iload_n 1, 1) := by decide +kernel
theorem dX0_nearestPair_28 : decode cX0_nearestPair 28 = .ok (.iconst (-1), 1) := by decide +kernel
theorem dX0_nearestPair_29 : decode cX0_nearestPair 29 = .ok (.if_icmp .eq 9, 3) := by decide +kernel
theorem dX0_nearestPair_32 : decode cX0_nearestPair 32 = .ok (.iload 4, 2) := by decide +kernel
theorem dX0_nearestPair_34 : decode cX0_nearestPair 34 = .ok (.iload_n 1, 1) := by decide +kernel
theorem dX0_nearestPair_35 : decode cX0_nearestPair 35 = .ok (.if_icmp .ge 6, 3) := by decide +kernel
theorem dX0_nearestPair_38 : decode cX0_nearestPair 38 = .ok (.iload 4, 2) := by decide +kernel
theorem dX0_nearestPair_40 : decode cX0_nearestPair 40 = .ok (.istore_n 1, 1) := by decide +kernel
theorem dX0_nearestPair_41 : decode cX0_nearestPair 41 = .ok (.iinc 3 1, 3) := by decide +kernel
theorem dX0_nearestPair_44 : decode cX0_nearestPair 44 = .ok (.goto (-30), 3) := by decide +kernel
theorem dX0_nearestPair_47 : decode cX0_nearestPair 47 = .ok (.iinc 2 1, 3) := by decide +kernel
theorem dX0_nearestPair_50 : decode cX0_nearestPair 50 = .ok (.goto (-46), 3) := by decide +kernel
theorem dX0_nearestPair_53 : decode cX0_nearestPair 53 = .ok (.iload_n 1, 1) := by decide +kernel
theorem dX0_nearestPair_54 : decode cX0_nearestPair 54 = .ok (.ireturn, 1) := by decide +kernel
theorem dX0_nearestWord_0 : decode cX0_nearestWord 0 = .ok (.iconst (-1), 1) := by decide +kernel
theorem dX0_nearestWord_1 : decode cX0_nearestWord 1 = .ok (.istore_n 2, 1) := by decide +kernel
theorem dX0_nearestWord_2 : decode cX0_nearestWord 2 = .ok (.bipush 7, 2) := by decide +kernel
theorem dX0_nearestWord_4 : decode cX0_nearestWord 4 = .ok (.istore_n 3, 1) := by decide +kernel
theorem dX0_nearestWord_5 : decode cX0_nearestWord 5 = .ok (.iconst 0, 1) := by decide +kernel
theorem dX0_nearestWord_6 : decode cX0_nearestWord 6 = .ok (.istore 4, 2) := by decide +kernel
theorem dX0_nearestWord_8 : decode cX0_nearestWord 8 = .ok (.iload 4, 2) := by decide +kernel
theorem dX0_nearestWord_10 : decode cX0_nearestWord 10 = .ok (.aload_n 0, 1) := by decide +kernel
theorem dX0_nearestWord_11 : decode cX0_nearestWord 11 = .ok (.getfield 43, 3) := by decide +kernel
theorem dX0_nearestWord_14 : decode cX0_nearestWord 14 = .ok (.if_icmp .ge 60, 3) := by decide +kernel
theorem dX0_nearestWord_17 : decode cX0_nearestWord 17 = .ok (.iconst 0, 1) := by decide +kernel
theorem dX0_nearestWord_18 : decode cX0_nearestWord 18 = .ok (.istore 5, 2) := by decide +kernel
theorem dX0_nearestWord_20 : decode cX0_nearestWord 20 = .ok (.iconst 0, 1) := by decide +kernel
theorem dX0_nearestWord_21 : decode cX0_nearestWord 21 = .ok (.istore 6, 2) := by decide +kernel
theorem dX0_nearestWord_23 : decode cX0_nearestWord 23 = .ok (.iload 6, 2) := by decide +kernel
theorem dX0_nearestWord_25 : decode cX0_nearestWord 25 = .ok (.bipush 6, 2) := by decide +kernel
theorem dX0_nearestWord_27 : decode cX0_nearestWord 27 = .ok (.if_icmp .ge 29, 3) := by decide +kernel
theorem dX0_nearestWord_30 : decode cX0_nearestWord 30 = .ok (.aload_n 0, 1) := by decide +kernel
theorem dX0_nearestWord_31 : decode cX0_nearestWord 31 = .ok (.iload 4, 2) := by decide +kernel
theorem dX0_nearestWord_33 : decode cX0_nearestWord 33 = .ok (.iload 6, 2) := by decide +kernel
theorem dX0_nearestWord_35 : decode cX0_nearestWord 35 = .ok (.invokevirtual 75, 3) := by decide +kernel
theorem dX0_nearestWord_38 : decode cX0_nearestWord 38 = .ok (.aload_n 1, 1) := by decide +kernel
theorem dX0_nearestWord_39 : decode cX0_nearestWord 39 = .ok (.iload 6, 2) := by decide +kernel
theorem dX0_nearestWord_41 : decode cX0_nearestWord 41 = .ok (.invokestatic 54, 3) := by decide +kernel
theorem dX0_nearestWord_44 : decode cX0_nearestWord 44 = .ok (.if_icmp .eq 6, 3) := by decide +kernel
theorem dX0_nearestWord_47 : decode cX0_nearestWord 47 = .ok (.iinc 5 1, 3) := by decide +kernel
theorem dX0_nearestWord_50 : decode cX0_nearestWord 50 = .ok (.iinc 6 1, 3) := by decide +kernel
theorem dX0_nearestWord_53 : decode cX0_nearestWord 53 = .ok (.goto (-30), 3) := by decide +kernel
theorem dX0_nearestWord_56 : decode cX0_nearestWord 56 = .ok (.iload 5, 2) := by decide +kernel
theorem dX0_nearestWord_58 : decode cX0_nearestWord 58 = .ok (.iload_n 3, 1) := by decide +kernel
theorem dX0_nearestWord_59 : decode cX0_nearestWord 59 = .ok (.if_icmp .ge 9, 3) := by decide +kernel
theorem dX0_nearestWord_62 : decode cX0_nearestWord 62 = .ok (.iload 5, 2) := by decide +kernel
theorem dX0_nearestWord_64 : decode cX0_nearestWord 64 = .ok (.istore_n 3, 1) := by decide +kernel
theorem dX0_nearestWord_65 : decode cX0_nearestWord 65 = .ok (.iload 4, 2) := by decide +kernel
theorem dX0_nearestWord_67 : decode cX0_nearestWord 67 = .ok (.istore_n 2, 1) := by decide +kernel
theorem dX0_nearestWord_68 : decode cX0_nearestWord 68 = .ok (.iinc 4 1, 3) := by decide +kernel
theorem dX0_nearestWord_71 : decode cX0_nearestWord 71 = .ok (.goto (-63), 3) := by decide +kernel
theorem dX0_nearestWord_74 : decode cX0_nearestWord 74 = .ok (.iload_n 2, 1) := by decide +kernel
theorem dX0_nearestWord_75 : decode cX0_nearestWord 75 = .ok (.ireturn, 1) := by decide +kernel
theorem dX0_mixInto_0 : decode cX0_mixInto 0 = .ok (.lload_n 1, 1) := by decide +kernel
theorem dX0_mixInto_1 : decode cX0_mixInto 1 = .ok (.aload_n 0, 1) := by decide +kernel
theorem dX0_mixInto_2 : decode cX0_mixInto 2 = .ok (.getfield 33, 3) := by decide +kernel
theorem dX0_mixInto_5 : decode cX0_mixInto 5 = .ok (.i2l, 1) := by decide +kernel
theorem dX0_mixInto_6 : decode cX0_mixInto 6 = .ok (.invokestatic 82, 3) := by decide +kernel
theorem dX0_mixInto_9 : decode cX0_mixInto 9 = .ok (.lstore_n 3, 1) := by decide +kernel
theorem dX0_mixInto_10 : decode cX0_mixInto 10 = .ok (.iconst 0, 1) := by decide +kernel
theorem dX0_mixInto_11 : decode cX0_mixInto 11 = .ok (.istore 5, 2) := by decide +kernel
theorem dX0_mixInto_13 : decode cX0_mixInto 13 = .ok (.iload 5, 2) := by decide +kernel
theorem dX0_mixInto_15 : decode cX0_mixInto 15 = .ok (.aload_n 0, 1) := by decide +kernel
theorem dX0_mixInto_16 : decode cX0_mixInto 16 = .ok (.getfield 37, 3) := by decide +kernel
theorem dX0_mixInto_19 : decode cX0_mixInto 19 = .ok (.if_icmp .ge 50, 3) := by decide +kernel
theorem dX0_mixInto_22 : decode cX0_mixInto 22 = .ok (.lload_n 3, 1) := by decide +kernel
theorem dX0_mixInto_23 : decode cX0_mixInto 23 = .ok (.aload_n 0, 1) := by decide +kernel
theorem dX0_mixInto_24 : decode cX0_mixInto 24 = .ok (.getfield 9, 3) := by decide +kernel
theorem dX0_mixInto_27 : decode cX0_mixInto 27 = .ok (.iload 5, 2) := by decide +kernel
theorem dX0_mixInto_29 : decode cX0_mixInto 29 = .ok (.invokestatic 54, 3) := by decide +kernel
theorem dX0_mixInto_32 : decode cX0_mixInto 32 = .ok (.i2l, 1) := by decide +kernel
theorem dX0_mixInto_33 : decode cX0_mixInto 33 = .ok (.invokestatic 82, 3) := by decide +kernel
theorem dX0_mixInto_36 : decode cX0_mixInto 36 = .ok (.aload_n 0, 1) := by decide +kernel
theorem dX0_mixInto_37 : decode cX0_mixInto 37 = .ok (.getfield 15, 3) := by decide +kernel
theorem dX0_mixInto_40 : decode cX0_mixInto 40 = .ok (.iload 5, 2) := by decide +kernel
theorem dX0_mixInto_42 : decode cX0_mixInto 42 = .ok (.invokestatic 54, 3) := by decide +kernel
theorem dX0_mixInto_45 : decode cX0_mixInto 45 = .ok (.i2l, 1) := by decide +kernel
theorem dX0_mixInto_46 : decode cX0_mixInto 46 = .ok (.invokestatic 82, 3) := by decide +kernel
theorem dX0_mixInto_49 : decode cX0_mixInto 49 = .ok (.aload_n 0, 1) := by decide +kernel
theorem dX0_mixInto_50 : decode cX0_mixInto 50 = .ok (.getfield 18, 3) := by decide +kernel
theorem dX0_mixInto_53 : decode cX0_mixInto 53 = .ok (.iload 5, 2) := by decide +kernel
theorem dX0_mixInto_55 : decode cX0_mixInto 55 = .ok (.invokestatic 54, 3) := by decide +kernel
theorem dX0_mixInto_58 : decode cX0_mixInto 58 = .ok (.i2l, 1) := by decide +kernel
theorem dX0_mixInto_59 : decode cX0_mixInto 59 = .ok (.invokestatic 82, 3) := by decide +kernel
theorem dX0_mixInto_62 : decode cX0_mixInto 62 = .ok (.lstore_n 3, 1) := by decide +kernel
theorem dX0_mixInto_63 : decode cX0_mixInto 63 = .ok (.iinc 5 1, 3) := by decide +kernel
theorem dX0_mixInto_66 : decode cX0_mixInto 66 = .ok (.goto (-53), 3) := by decide +kernel
theorem dX0_mixInto_69 : decode cX0_mixInto 69 = .ok (.iconst 0, 1) := by decide +kernel
theorem dX0_mixInto_70 : decode cX0_mixInto 70 = .ok (.istore 5, 2) := by decide +kernel
theorem dX0_mixInto_72 : decode cX0_mixInto 72 = .ok (.iload 5, 2) := by decide +kernel
theorem dX0_mixInto_74 : decode cX0_mixInto 74 = .ok (.aload_n 0, 1) := by decide +kernel
theorem dX0_mixInto_75 : decode cX0_mixInto 75 = .ok (.getfield 40, 3) := by decide +kernel
theorem dX0_mixInto_78 : decode cX0_mixInto 78 = .ok (.if_icmp .ge 50, 3) := by decide +kernel
theorem dX0_mixInto_81 : decode cX0_mixInto 81 = .ok (.lload_n 3, 1) := by decide +kernel
theorem dX0_mixInto_82 : decode cX0_mixInto 82 = .ok (.aload_n 0, 1) := by decide +kernel
theorem dX0_mixInto_83 : decode cX0_mixInto 83 = .ok (.getfield 21, 3) := by decide +kernel
theorem dX0_mixInto_86 : decode cX0_mixInto 86 = .ok (.iload 5, 2) := by decide +kernel
theorem dX0_mixInto_88 : decode cX0_mixInto 88 = .ok (.invokestatic 54, 3) := by decide +kernel
theorem dX0_mixInto_91 : decode cX0_mixInto 91 = .ok (.i2l, 1) := by decide +kernel
theorem dX0_mixInto_92 : decode cX0_mixInto 92 = .ok (.invokestatic 82, 3) := by decide +kernel
theorem dX0_mixInto_95 : decode cX0_mixInto 95 = .ok (.aload_n 0, 1) := by decide +kernel
theorem dX0_mixInto_96 : decode cX0_mixInto 96 = .ok (.getfield 24, 3) := by decide +kernel
theorem dX0_mixInto_99 : decode cX0_mixInto 99 = .ok (.iload 5, 2) := by decide +kernel
theorem dX0_mixInto_101 : decode cX0_mixInto 101 = .ok (.invokestatic 54, 3) := by decide +kernel
theorem dX0_mixInto_104 : decode cX0_mixInto 104 = .ok (.i2l, 1) := by decide +kernel
theorem dX0_mixInto_105 : decode cX0_mixInto 105 = .ok (.invokestatic 82, 3) := by decide +kernel
theorem dX0_mixInto_108 : decode cX0_mixInto 108 = .ok (.aload_n 0, 1) := by decide +kernel
theorem dX0_mixInto_109 : decode cX0_mixInto 109 = .ok (.getfield 27, 3) := by decide +kernel
theorem dX0_mixInto_112 : decode cX0_mixInto 112 = .ok (.iload 5, 2) := by decide +kernel
theorem dX0_mixInto_114 : decode cX0_mixInto 114 = .ok (.invokestatic 54, 3) := by decide +kernel
theorem dX0_mixInto_117 : decode cX0_mixInto 117 = .ok (.i2l, 1) := by decide +kernel
theorem dX0_mixInto_118 : decode cX0_mixInto 118 = .ok (.invokestatic 82, 3) := by decide +kernel
theorem dX0_mixInto_121 : decode cX0_mixInto 121 = .ok (.lstore_n 3, 1) := by decide +kernel
theorem dX0_mixInto_122 : decode cX0_mixInto 122 = .ok (.iinc 5 1, 3) := by decide +kernel
theorem dX0_mixInto_125 : decode cX0_mixInto 125 = .ok (.goto (-53), 3) := by decide +kernel
theorem dX0_mixInto_128 : decode cX0_mixInto 128 = .ok (.iconst 0, 1) := by decide +kernel
theorem dX0_mixInto_129 : decode cX0_mixInto 129 = .ok (.istore 5, 2) := by decide +kernel
theorem dX0_mixInto_131 : decode cX0_mixInto 131 = .ok (.iload 5, 2) := by decide +kernel
theorem dX0_mixInto_133 : decode cX0_mixInto 133 = .ok (.aload_n 0, 1) := by decide +kernel
theorem dX0_mixInto_134 : decode cX0_mixInto 134 = .ok (.getfield 43, 3) := by decide +kernel
theorem dX0_mixInto_137 : decode cX0_mixInto 137 = .ok (.bipush 6, 2) := by decide +kernel
theorem dX0_mixInto_139 : decode cX0_mixInto 139 = .ok (.imul, 1) := by decide +kernel
theorem dX0_mixInto_140 : decode cX0_mixInto 140 = .ok (.if_icmp .ge 24, 3) := by decide +kernel
theorem dX0_mixInto_143 : decode cX0_mixInto 143 = .ok (.lload_n 3, 1) := by decide +kernel
theorem dX0_mixInto_144 : decode cX0_mixInto 144 = .ok (.aload_n 0, 1) := by decide +kernel
theorem dX0_mixInto_145 : decode cX0_mixInto 145 = .ok (.getfield 30, 3) := by decide +kernel
theorem dX0_mixInto_148 : decode cX0_mixInto 148 = .ok (.iload 5, 2) := by decide +kernel
theorem dX0_mixInto_150 : decode cX0_mixInto 150 = .ok (.invokestatic 54, 3) := by decide +kernel
theorem dX0_mixInto_153 : decode cX0_mixInto 153 = .ok (.i2l, 1) := by decide +kernel
theorem dX0_mixInto_154 : decode cX0_mixInto 154 = .ok (.invokestatic 82, 3) := by decide +kernel
theorem dX0_mixInto_157 : decode cX0_mixInto 157 = .ok (.lstore_n 3, 1) := by decide +kernel
theorem dX0_mixInto_158 : decode cX0_mixInto 158 = .ok (.iinc 5 1, 3) := by decide +kernel
theorem dX0_mixInto_161 : decode cX0_mixInto 161 = .ok (.goto (-30), 3) := by decide +kernel
theorem dX0_mixInto_164 : decode cX0_mixInto 164 = .ok (.lload_n 3, 1) := by decide +kernel
theorem dX0_mixInto_165 : decode cX0_mixInto 165 = .ok (.lreturn, 1) := by decide +kernel
theorem dX1_init_0 : decode cX1_init 0 = .ok (.aload_n 0, 1) := by decide +kernel
theorem dX1_init_1 : decode cX1_init 1 = .ok (.invokespecial 1, 3) := by decide +kernel
theorem dX1_init_4 : decode cX1_init 4 = .ok (.aload_n 0, 1) := by decide +kernel
theorem dX1_init_5 : decode cX1_init 5 = .ok (.aload_n 1, 1) := by decide +kernel
theorem dX1_init_6 : decode cX1_init 6 = .ok (.putfield 7, 3) := by decide +kernel
theorem dX1_init_9 : decode cX1_init 9 = .ok (.return_, 1) := by decide +kernel
theorem dX1_setTo_0 : decode cX1_setTo 0 = .ok (.aload_n 0, 1) := by decide +kernel
theorem dX1_setTo_1 : decode cX1_setTo 1 = .ok (.aload_n 1, 1) := by decide +kernel
theorem dX1_setTo_2 : decode cX1_setTo 2 = .ok (.getfield 7, 3) := by decide +kernel
theorem dX1_setTo_5 : decode cX1_setTo 5 = .ok (.putfield 7, 3) := by decide +kernel
theorem dX1_setTo_8 : decode cX1_setTo 8 = .ok (.aload_n 0, 1) := by decide +kernel
theorem dX1_setTo_9 : decode cX1_setTo 9 = .ok (.aload_n 1, 1) := by decide +kernel
theorem dX1_setTo_10 : decode cX1_setTo 10 = .ok (.getfield 13, 3) := by decide +kernel
theorem dX1_setTo_13 : decode cX1_setTo 13 = .ok (.putfield 13, 3) := by decide +kernel
theorem dX1_setTo_16 : decode cX1_setTo 16 = .ok (.aload_n 0, 1) := by decide +kernel
theorem dX1_setTo_17 : decode cX1_setTo 17 = .ok (.aload_n 1, 1) := by decide +kernel
theorem dX1_setTo_18 : decode cX1_setTo 18 = .ok (.getfield 17, 3) := by decide +kernel
theorem dX1_setTo_21 : decode cX1_setTo 21 = .ok (.putfield 17, 3) := by decide +kernel
theorem dX1_setTo_24 : decode cX1_setTo 24 = .ok (.aload_n 0, 1) := by decide +kernel
theorem dX1_setTo_25 : decode cX1_setTo 25 = .ok (.aload_n 1, 1) := by decide +kernel
theorem dX1_setTo_26 : decode cX1_setTo 26 = .ok (.getfield 20, 3) := by decide +kernel
theorem dX1_setTo_29 : decode cX1_setTo 29 = .ok (.putfield 20, 3) := by decide +kernel
theorem dX1_setTo_32 : decode cX1_setTo 32 = .ok (.aload_n 0, 1) := by decide +kernel
theorem dX1_setTo_33 : decode cX1_setTo 33 = .ok (.aload_n 1, 1) := by decide +kernel
theorem dX1_setTo_34 : decode cX1_setTo 34 = .ok (.getfield 23, 3) := by decide +kernel
theorem dX1_setTo_37 : decode cX1_setTo 37 = .ok (.putfield 23, 3) := by decide +kernel
theorem dX1_setTo_40 : decode cX1_setTo 40 = .ok (.return_, 1) := by decide +kernel
theorem dX1_needs_0 : decode cX1_needs 0 = .ok (.aload_n 0, 1) := by decide +kernel
theorem dX1_needs_1 : decode cX1_needs 1 = .ok (.getfield 7, 3) := by decide +kernel
theorem dX1_needs_4 : decode cX1_needs 4 = .ok (.aload_n 0, 1) := by decide +kernel
theorem dX1_needs_5 : decode cX1_needs 5 = .ok (.getfield 17, 3) := by decide +kernel
theorem dX1_needs_8 : decode cX1_needs 8 = .ok (.iload_n 1, 1) := by decide +kernel
theorem dX1_needs_9 : decode cX1_needs 9 = .ok (.invokevirtual 26, 3) := by decide +kernel
theorem dX1_needs_12 : decode cX1_needs 12 = .ok (.ireturn, 1) := by decide +kernel
theorem dX2_init_0 : decode cX2_init 0 = .ok (.aload_n 0, 1) := by decide +kernel
theorem dX2_init_1 : decode cX2_init 1 = .ok (.invokespecial 3, 3) := by decide +kernel
theorem dX2_init_4 : decode cX2_init 4 = .ok (.aload_n 0, 1) := by decide +kernel
theorem dX2_init_5 : decode cX2_init 5 = .ok (.bipush 6, 2) := by decide +kernel
theorem dX2_init_7 : decode cX2_init 7 = .ok (.anewarray 9, 3) := by decide +kernel
theorem dX2_init_10 : decode cX2_init 10 = .ok (.putfield 11, 3) := by decide +kernel
theorem dX2_init_13 : decode cX2_init 13 = .ok (.aload_n 0, 1) := by decide +kernel
theorem dX2_init_14 : decode cX2_init 14 = .ok (.aload_n 1, 1) := by decide +kernel
theorem dX2_init_15 : decode cX2_init 15 = .ok (.putfield 17, 3) := by decide +kernel
theorem dX2_init_18 : decode cX2_init 18 = .ok (.aload_n 0, 1) := by decide +kernel
theorem dX2_init_19 : decode cX2_init 19 = .ok (.new 21, 3) := by decide +kernel
theorem dX2_init_22 : decode cX2_init 22 = .ok (.dup, 1) := by decide +kernel
theorem dX2_init_23 : decode cX2_init 23 = .ok (.invokespecial 23, 3) := by decide +kernel
theorem dX2_init_26 : decode cX2_init 26 = .ok (.putfield 24, 3) := by decide +kernel
theorem dX2_init_29 : decode cX2_init 29 = .ok (.aload_n 0, 1) := by decide +kernel
theorem dX2_init_30 : decode cX2_init 30 = .ok (.new 9, 3) := by decide +kernel
theorem dX2_init_33 : decode cX2_init 33 = .ok (.dup, 1) := by decide +kernel
theorem dX2_init_34 : decode cX2_init 34 = .ok (.aload_n 0, 1) := by decide +kernel
theorem dX2_init_35 : decode cX2_init 35 = .ok (.getfield 24, 3) := by decide +kernel
theorem dX2_init_38 : decode cX2_init 38 = .ok (.invokespecial 28, 3) := by decide +kernel
theorem dX2_init_41 : decode cX2_init 41 = .ok (.putfield 31, 3) := by decide +kernel
theorem dX2_init_44 : decode cX2_init 44 = .ok (.iconst 0, 1) := by decide +kernel
theorem dX2_init_45 : decode cX2_init 45 = .ok (.istore_n 2, 1) := by decide +kernel
theorem dX2_init_46 : decode cX2_init 46 = .ok (.iload_n 2, 1) := by decide +kernel
theorem dX2_init_47 : decode cX2_init 47 = .ok (.aload_n 0, 1) := by decide +kernel
theorem dX2_init_48 : decode cX2_init 48 = .ok (.getfield 11, 3) := by decide +kernel
theorem dX2_init_51 : decode cX2_init 51 = .ok (.arraylength, 1) := by decide +kernel
theorem dX2_init_52 : decode cX2_init 52 = .ok (.if_icmp .ge 26, 3) := by decide +kernel
theorem dX2_init_55 : decode cX2_init 55 = .ok (.aload_n 0, 1) := by decide +kernel
theorem dX2_init_56 : decode cX2_init 56 = .ok (.getfield 11, 3) := by decide +kernel
theorem dX2_init_59 : decode cX2_init 59 = .ok (.iload_n 2, 1) := by decide +kernel
theorem dX2_init_60 : decode cX2_init 60 = .ok (.new 9, 3) := by decide +kernel
theorem dX2_init_63 : decode cX2_init 63 = .ok (.dup, 1) := by decide +kernel
theorem dX2_init_64 : decode cX2_init 64 = .ok (.aload_n 0, 1) := by decide +kernel
theorem dX2_init_65 : decode cX2_init 65 = .ok (.getfield 24, 3) := by decide +kernel
theorem dX2_init_68 : decode cX2_init 68 = .ok (.invokespecial 28, 3) := by decide +kernel
theorem dX2_init_71 : decode cX2_init 71 = .ok (.aastore, 1) := by decide +kernel
theorem dX2_init_72 : decode cX2_init 72 = .ok (.iinc 2 1, 3) := by decide +kernel
theorem dX2_init_75 : decode cX2_init 75 = .ok (.goto (-29), 3) := by decide +kernel
theorem dX2_init_78 : decode cX2_init 78 = .ok (.aload_n 0, 1) := by decide +kernel
theorem dX2_init_79 : decode cX2_init 79 = .ok (.bipush 10, 2) := by decide +kernel
theorem dX2_init_81 : decode cX2_init 81 = .ok (.putfield 35, 3) := by decide +kernel
theorem dX2_init_84 : decode cX2_init 84 = .ok (.return_, 1) := by decide +kernel
theorem dX2_begin_0 : decode cX2_begin 0 = .ok (.aload_n 0, 1) := by decide +kernel
theorem dX2_begin_1 : decode cX2_begin 1 = .ok (.iload_n 1, 1) := by decide +kernel
theorem dX2_begin_2 : decode cX2_begin 2 = .ok (.putfield 35, 3) := by decide +kernel
theorem dX2_begin_5 : decode cX2_begin 5 = .ok (.aload_n 0, 1) := by decide +kernel
theorem dX2_begin_6 : decode cX2_begin 6 = .ok (.iconst 0, 1) := by decide +kernel
theorem dX2_begin_7 : decode cX2_begin 7 = .ok (.putfield 39, 3) := by decide +kernel
theorem dX2_begin_10 : decode cX2_begin 10 = .ok (.aload_n 0, 1) := by decide +kernel
theorem dX2_begin_11 : decode cX2_begin 11 = .ok (.iconst 0, 1) := by decide +kernel
theorem dX2_begin_12 : decode cX2_begin 12 = .ok (.putfield 42, 3) := by decide +kernel
theorem dX2_begin_15 : decode cX2_begin 15 = .ok (.aload_n 0, 1) := by decide +kernel
theorem dX2_begin_16 : decode cX2_begin 16 = .ok (.iconst 0, 1) := by decide +kernel
theorem dX2_begin_17 : decode cX2_begin 17 = .ok (.putfield 45, 3) := by decide +kernel
theorem dX2_begin_20 : decode cX2_begin 20 = .ok (.aload_n 0, 1) := by decide +kernel
theorem dX2_begin_21 : decode cX2_begin 21 = .ok (.iconst 0, 1) := by decide +kernel
theorem dX2_begin_22 : decode cX2_begin 22 = .ok (.putfield 48, 3) := by decide +kernel
theorem dX2_begin_25 : decode cX2_begin 25 = .ok (.aload_n 0, 1) := by decide +kernel
theorem dX2_begin_26 : decode cX2_begin 26 = .ok (.iconst 0, 1) := by decide +kernel
theorem dX2_begin_27 : decode cX2_begin 27 = .ok (.putfield 51, 3) := by decide +kernel
theorem dX2_begin_30 : decode cX2_begin 30 = .ok (.aload_n 0, 1) := by decide +kernel
theorem dX2_begin_31 : decode cX2_begin 31 = .ok (.iconst 0, 1) := by decide +kernel
theorem dX2_begin_32 : decode cX2_begin 32 = .ok (.putfield 54, 3) := by decide +kernel
theorem dX2_begin_35 : decode cX2_begin 35 = .ok (.aload_n 0, 1) := by decide +kernel
theorem dX2_begin_36 : decode cX2_begin 36 = .ok (.iconst 0, 1) := by decide +kernel
theorem dX2_begin_37 : decode cX2_begin 37 = .ok (.putfield 57, 3) := by decide +kernel
theorem dX2_begin_40 : decode cX2_begin 40 = .ok (.aload_n 0, 1) := by decide +kernel
theorem dX2_begin_41 : decode cX2_begin 41 = .ok (.iconst 0, 1) := by decide +kernel
theorem dX2_begin_42 : decode cX2_begin 42 = .ok (.putfield 60, 3) := by decide +kernel
theorem dX2_begin_45 : decode cX2_begin 45 = .ok (.return_, 1) := by decide +kernel
theorem dX2_setTo_0 : decode cX2_setTo 0 = .ok (.aload_n 0, 1) := by decide +kernel
theorem dX2_setTo_1 : decode cX2_setTo 1 = .ok (.aload_n 1, 1) := by decide +kernel
theorem dX2_setTo_2 : decode cX2_setTo 2 = .ok (.getfield 35, 3) := by decide +kernel
theorem dX2_setTo_5 : decode cX2_setTo 5 = .ok (.putfield 35, 3) := by decide +kernel
theorem dX2_setTo_8 : decode cX2_setTo 8 = .ok (.aload_n 0, 1) := by decide +kernel
theorem dX2_setTo_9 : decode cX2_setTo 9 = .ok (.aload_n 1, 1) := by decide +kernel
theorem dX2_setTo_10 : decode cX2_setTo 10 = .ok (.getfield 54, 3) := by decide +kernel
theorem dX2_setTo_13 : decode cX2_setTo 13 = .ok (.putfield 54, 3) := by decide +kernel
theorem dX2_setTo_16 : decode cX2_setTo 16 = .ok (.iconst 0, 1) := by decide +kernel
theorem dX2_setTo_17 : decode cX2_setTo 17 = .ok (.istore_n 2, 1) := by decide +kernel
theorem dX2_setTo_18 : decode cX2_setTo 18 = .ok (.iload_n 2, 1) := by decide +kernel
theorem dX2_setTo_19 : decode cX2_setTo 19 = .ok (.aload_n 0, 1) := by decide +kernel
theorem dX2_setTo_20 : decode cX2_setTo 20 = .ok (.getfield 54, 3) := by decide +kernel
theorem dX2_setTo_23 : decode cX2_setTo 23 = .ok (.if_icmp .ge 22, 3) := by decide +kernel
theorem dX2_setTo_26 : decode cX2_setTo 26 = .ok (.aload_n 0, 1) := by decide +kernel
theorem dX2_setTo_27 : decode cX2_setTo 27 = .ok (.iload_n 2, 1) := by decide +kernel
theorem dX2_setTo_28 : decode cX2_setTo 28 = .ok (.invokevirtual 63, 3) := by decide +kernel
theorem dX2_setTo_31 : decode cX2_setTo 31 = .ok (.aload_n 1, 1) := by decide +kernel
theorem dX2_setTo_32 : decode cX2_setTo 32 = .ok (.iload_n 2, 1) := by decide +kernel
theorem dX2_setTo_33 : decode cX2_setTo 33 = .ok (.invokevirtual 63, 3) := by decide +kernel
theorem dX2_setTo_36 : decode cX2_setTo 36 = .ok (.invokevirtual 67, 3) := by decide +kernel
theorem dX2_setTo_39 : decode cX2_setTo 39 = .ok (.iinc 2 1, 3) := by decide +kernel
theorem dX2_setTo_42 : decode cX2_setTo 42 = .ok (.goto (-24), 3) := by decide +kernel
theorem dX2_setTo_45 : decode cX2_setTo 45 = .ok (.aload_n 0, 1) := by decide +kernel
theorem dX2_setTo_46 : decode cX2_setTo 46 = .ok (.aload_n 1, 1) := by decide +kernel
theorem dX2_setTo_47 : decode cX2_setTo 47 = .ok (.invokevirtual 71, 3) := by decide +kernel
theorem dX2_setTo_50 : decode cX2_setTo 50 = .ok (.return_, 1) := by decide +kernel
theorem dX2_goBackTo_0 : decode cX2_goBackTo 0 = .ok (.iconst 0, 1) := by decide +kernel
theorem dX2_goBackTo_1 : decode cX2_goBackTo 1 = .ok (.istore_n 2, 1) := by decide +kernel
theorem dX2_goBackTo_2 : decode cX2_goBackTo 2 = .ok (.iload_n 2, 1) := by decide +kernel
theorem dX2_goBackTo_3 : decode cX2_goBackTo 3 = .ok (.aload_n 1, 1) := by decide +kernel
theorem dX2_goBackTo_4 : decode cX2_goBackTo 4 = .ok (.getfield 54, 3) := by decide +kernel
theorem dX2_goBackTo_7 : decode cX2_goBackTo 7 = .ok (.if_icmp .ge 40, 3) := by decide +kernel
theorem dX2_goBackTo_10 : decode cX2_goBackTo 10 = .ok (.aload_n 0, 1) := by decide +kernel
theorem dX2_goBackTo_11 : decode cX2_goBackTo 11 = .ok (.iload_n 2, 1) := by decide +kernel
theorem dX2_goBackTo_12 : decode cX2_goBackTo 12 = .ok (.invokevirtual 63, 3) := by decide +kernel
theorem dX2_goBackTo_15 : decode cX2_goBackTo 15 = .ok (.astore_n 3, 1) := by decide +kernel
theorem dX2_goBackTo_16 : decode cX2_goBackTo 16 = .ok (.aload_n 1, 1) := by decide +kernel
theorem dX2_goBackTo_17 : decode cX2_goBackTo 17 = .ok (.iload_n 2, 1) := by decide +kernel
theorem dX2_goBackTo_18 : decode cX2_goBackTo 18 = .ok (.invokevirtual 63, 3) := by decide +kernel
theorem dX2_goBackTo_21 : decode cX2_goBackTo 21 = .ok (.astore 4, 2) := by decide +kernel
theorem dX2_goBackTo_23 : decode cX2_goBackTo 23 = .ok (.aload_n 3, 1) := by decide +kernel
theorem dX2_goBackTo_24 : decode cX2_goBackTo 24 = .ok (.aload 4, 2) := by decide +kernel
theorem dX2_goBackTo_26 : decode cX2_goBackTo 26 = .ok (.getfield 75, 3) := by decide +kernel
theorem dX2_goBackTo_29 : decode cX2_goBackTo 29 = .ok (.putfield 75, 3) := by decide +kernel
theorem dX2_goBackTo_32 : decode cX2_goBackTo 32 = .ok (.aload_n 3, 1) := by decide +kernel
theorem dX2_goBackTo_33 : decode cX2_goBackTo 33 = .ok (.aload 4, 2) := by decide +kernel
theorem dX2_goBackTo_35 : decode cX2_goBackTo 35 = .ok (.getfield 78, 3) := by decide +kernel
theorem dX2_goBackTo_38 : decode cX2_goBackTo 38 = .ok (.putfield 78, 3) := by decide +kernel
theorem dX2_goBackTo_41 : decode cX2_goBackTo 41 = .ok (.iinc 2 1, 3) := by decide +kernel
theorem dX2_goBackTo_44 : decode cX2_goBackTo 44 = .ok (.goto (-42), 3) := by decide +kernel
theorem dX2_goBackTo_47 : decode cX2_goBackTo 47 = .ok (.aload_n 0, 1) := by decide +kernel
theorem dX2_goBackTo_48 : decode cX2_goBackTo 48 = .ok (.aload_n 1, 1) := by decide +kernel
theorem dX2_goBackTo_49 : decode cX2_goBackTo 49 = .ok (.invokevirtual 71, 3) := by decide +kernel
theorem dX2_goBackTo_52 : decode cX2_goBackTo 52 = .ok (.return_, 1) := by decide +kernel
theorem dX2_setTimeTo_0 : decode cX2_setTimeTo 0 = .ok (.aload_n 0, 1) := by decide +kernel
theorem dX2_setTimeTo_1 : decode cX2_setTimeTo 1 = .ok (.aload_n 1, 1) := by decide +kernel
theorem dX2_setTimeTo_2 : decode cX2_setTimeTo 2 = .ok (.getfield 39, 3) := by decide +kernel
theorem dX2_setTimeTo_5 : decode cX2_setTimeTo 5 = .ok (.putfield 39, 3) := by decide +kernel
theorem dX2_setTimeTo_8 : decode cX2_setTimeTo 8 = .ok (.aload_n 0, 1) := by decide +kernel
theorem dX2_setTimeTo_9 : decode cX2_setTimeTo 9 = .ok (.aload_n 1, 1) := by decide +kernel
theorem dX2_setTimeTo_10 : decode cX2_setTimeTo 10 = .ok (.getfield 42, 3) := by decide +kernel
theorem dX2_setTimeTo_13 : decode cX2_setTimeTo 13 = .ok (.putfield 42, 3) := by decide +kernel
theorem dX2_setTimeTo_16 : decode cX2_setTimeTo 16 = .ok (.aload_n 0, 1) := by decide +kernel
theorem dX2_setTimeTo_17 : decode cX2_setTimeTo 17 = .ok (.aload_n 1, 1) := by decide +kernel
theorem dX2_setTimeTo_18 : decode cX2_setTimeTo 18 = .ok (.getfield 45, 3) := by decide +kernel
theorem dX2_setTimeTo_21 : decode cX2_setTimeTo 21 = .ok (.putfield 45, 3) := by decide +kernel
theorem dX2_setTimeTo_24 : decode cX2_setTimeTo 24 = .ok (.aload_n 0, 1) := by decide +kernel
theorem dX2_setTimeTo_25 : decode cX2_setTimeTo 25 = .ok (.aload_n 1, 1) := by decide +kernel
theorem dX2_setTimeTo_26 : decode cX2_setTimeTo 26 = .ok (.getfield 48, 3) := by decide +kernel
theorem dX2_setTimeTo_29 : decode cX2_setTimeTo 29 = .ok (.putfield 48, 3) := by decide +kernel
theorem dX2_setTimeTo_32 : decode cX2_setTimeTo 32 = .ok (.aload_n 0, 1) := by decide +kernel
theorem dX2_setTimeTo_33 : decode cX2_setTimeTo 33 = .ok (.aload_n 1, 1) := by decide +kernel
theorem dX2_setTimeTo_34 : decode cX2_setTimeTo 34 = .ok (.getfield 51, 3) := by decide +kernel
theorem dX2_setTimeTo_37 : decode cX2_setTimeTo 37 = .ok (.putfield 51, 3) := by decide +kernel
theorem dX2_setTimeTo_40 : decode cX2_setTimeTo 40 = .ok (.aload_n 0, 1) := by decide +kernel
theorem dX2_setTimeTo_41 : decode cX2_setTimeTo 41 = .ok (.aload_n 1, 1) := by decide +kernel
theorem dX2_setTimeTo_42 : decode cX2_setTimeTo 42 = .ok (.getfield 57, 3) := by decide +kernel
theorem dX2_setTimeTo_45 : decode cX2_setTimeTo 45 = .ok (.putfield 57, 3) := by decide +kernel
theorem dX2_setTimeTo_48 : decode cX2_setTimeTo 48 = .ok (.aload_n 0, 1) := by decide +kernel
theorem dX2_setTimeTo_49 : decode cX2_setTimeTo 49 = .ok (.aload_n 1, 1) := by decide +kernel
theorem dX2_setTimeTo_50 : decode cX2_setTimeTo 50 = .ok (.getfield 60, 3) := by decide +kernel
theorem dX2_setTimeTo_53 : decode cX2_setTimeTo 53 = .ok (.putfield 60, 3) := by decide +kernel
theorem dX2_setTimeTo_56 : decode cX2_setTimeTo 56 = .ok (.return_, 1) := by decide +kernel
theorem dX2_member_0 : decode cX2_member 0 = .ok (.iload_n 1, 1) := by decide +kernel
theorem dX2_member_1 : decode cX2_member 1 = .ok (.ifCond .lt 29, 3) := by decide +kernel
theorem dX2_member_4 : decode cX2_member 4 = .ok (.iload_n 1, 1) := by decide +kernel
theorem dX2_member_5 : decode cX2_member 5 = .ok (.aload_n 0, 1) := by decide +kernel
theorem dX2_member_6 : decode cX2_member 6 = .ok (.getfield 54, 3) := by decide +kernel
theorem dX2_member_9 : decode cX2_member 9 = .ok (.if_icmp .ge 21, 3) := by decide +kernel
theorem dX2_member_12 : decode cX2_member 12 = .ok (.iload_n 1, 1) := by decide +kernel
theorem dX2_member_13 : decode cX2_member 13 = .ok (.aload_n 0, 1) := by decide +kernel
theorem dX2_member_14 : decode cX2_member 14 = .ok (.getfield 11, 3) := by decide +kernel
theorem dX2_member_17 : decode cX2_member 17 = .ok (.arraylength, 1) := by decide +kernel
theorem dX2_member_18 : decode cX2_member 18 = .ok (.if_icmp .ge 12, 3) := by decide +kernel
theorem dX2_member_21 : decode cX2_member 21 = .ok (.aload_n 0, 1) := by decide +kernel
theorem dX2_member_22 : decode cX2_member 22 = .ok (.getfield 11, 3) := by decide +kernel
theorem dX2_member_25 : decode cX2_member 25 = .ok (.iload_n 1, 1) := by decide +kernel
theorem dX2_member_26 : decode cX2_member 26 = .ok (.aaload, 1) := by decide +kernel
theorem dX2_member_27 : decode cX2_member 27 = .ok (.goto 7, 3) := by decide +kernel
theorem dX2_member_30 : decode cX2_member 30 = .ok (.aload_n 0, 1) := by decide +kernel
theorem dX2_member_31 : decode cX2_member 31 = .ok (.getfield 31, 3) := by decide +kernel
theorem dX2_member_34 : decode cX2_member 34 = .ok (.astore_n 2, 1) := by decide +kernel
theorem dX2_member_35 : decode cX2_member 35 = .ok (.aload_n 2, 1) := by decide +kernel
theorem dX2_member_36 : decode cX2_member 36 = .ok (.ifnonnull 10, 3) := by decide +kernel
theorem dX2_member_39 : decode cX2_member 39 = .ok (.aload_n 0, 1) := by decide +kernel
theorem dX2_member_40 : decode cX2_member 40 = .ok (.getfield 31, 3) := by decide +kernel
theorem dX2_member_43 : decode cX2_member 43 = .ok (.goto 4, 3) := by decide +kernel
theorem dX2_member_46 : decode cX2_member 46 = .ok (.aload_n 2, 1) := by decide +kernel
theorem dX2_member_47 : decode cX2_member 47 = .ok (.areturn, 1) := by decide +kernel
theorem dX2_settle_0 : decode cX2_settle 0 = .ok (.aload_n 0, 1) := by decide +kernel
theorem dX2_settle_1 : decode cX2_settle 1 = .ok (.getfield 54, 3) := by decide +kernel
theorem dX2_settle_4 : decode cX2_settle 4 = .ok (.istore 4, 2) := by decide +kernel
theorem dX2_settle_6 : decode cX2_settle 6 = .ok (.aload_n 0, 1) := by decide +kernel
theorem dX2_settle_7 : decode cX2_settle 7 = .ok (.dup, 1) := by decide +kernel
theorem dX2_settle_8 : decode cX2_settle 8 = .ok (.getfield 54, 3) := by decide +kernel
theorem dX2_settle_11 : decode cX2_settle 11 = .ok (.iconst 1, 1) := by decide +kernel
theorem dX2_settle_12 : decode cX2_settle 12 = .ok (.iadd, 1) := by decide +kernel
theorem dX2_settle_13 : decode cX2_settle 13 = .ok (.putfield 54, 3) := by decide +kernel
theorem dX2_settle_16 : decode cX2_settle 16 = .ok (.aload_n 0, 1) := by decide +kernel
theorem dX2_settle_17 : decode cX2_settle 17 = .ok (.iload 4, 2) := by decide +kernel
theorem dX2_settle_19 : decode cX2_settle 19 = .ok (.invokevirtual 63, 3) := by decide +kernel
theorem dX2_settle_22 : decode cX2_settle 22 = .ok (.astore 5, 2) := by decide +kernel
theorem dX2_settle_24 : decode cX2_settle 24 = .ok (.iload_n 1, 1) := by decide +kernel
theorem dX2_settle_25 : decode cX2_settle 25 = .ok (.ifCond .lt 21, 3) := by decide +kernel
theorem dX2_settle_28 : decode cX2_settle 28 = .ok (.iload_n 1, 1) := by decide +kernel
theorem dX2_settle_29 : decode cX2_settle 29 = .ok (.aload_n 0, 1) := by decide +kernel
theorem dX2_settle_30 : decode cX2_settle 30 = .ok (.getfield 17, 3) := by decide +kernel
theorem dX2_settle_33 : decode cX2_settle 33 = .ok (.arraylength, 1) := by decide +kernel
theorem dX2_settle_34 : decode cX2_settle 34 = .ok (.if_icmp .ge 12, 3) := by decide +kernel
theorem dX2_settle_37 : decode cX2_settle 37 = .ok (.aload_n 0, 1) := by decide +kernel
theorem dX2_settle_38 : decode cX2_settle 38 = .ok (.getfield 17, 3) := by decide +kernel
theorem dX2_settle_41 : decode cX2_settle 41 = .ok (.iload_n 1, 1) := by decide +kernel
theorem dX2_settle_42 : decode cX2_settle 42 = .ok (.aaload, 1) := by decide +kernel
theorem dX2_settle_43 : decode cX2_settle 43 = .ok (.goto 7, 3) := by decide +kernel
theorem dX2_settle_46 : decode cX2_settle 46 = .ok (.aload_n 0, 1) := by decide +kernel
theorem dX2_settle_47 : decode cX2_settle 47 = .ok (.getfield 24, 3) := by decide +kernel
theorem dX2_settle_50 : decode cX2_settle 50 = .ok (.astore 6, 2) := by decide +kernel
theorem dX2_settle_52 : decode cX2_settle 52 = .ok (.aload 5, 2) := by decide +kernel
theorem dX2_settle_54 : decode cX2_settle 54 = .ok (.aload 6, 2) := by decide +kernel
theorem dX2_settle_56 : decode cX2_settle 56 = .ok (.ifnonnull 10, 3) := by decide +kernel
theorem dX2_settle_59 : decode cX2_settle 59 = .ok (.aload_n 0, 1) := by decide +kernel
theorem dX2_settle_60 : decode cX2_settle 60 = .ok (.getfield 24, 3) := by decide +kernel
theorem dX2_settle_63 : decode cX2_settle 63 = .ok (.goto 5, 3) := by decide +kernel
theorem dX2_settle_66 : decode cX2_settle 66 = .ok (.aload 6, 2) := by decide +kernel
theorem dX2_settle_68 : decode cX2_settle 68 = .ok (.putfield 81, 3) := by decide +kernel
theorem dX2_settle_71 : decode cX2_settle 71 = .ok (.aload 5, 2) := by decide +kernel
theorem dX2_settle_73 : decode cX2_settle 73 = .ok (.iload_n 1, 1) := by decide +kernel
theorem dX2_settle_74 : decode cX2_settle 74 = .ok (.putfield 84, 3) := by decide +kernel
theorem dX2_settle_77 : decode cX2_settle 77 = .ok (.aload 5, 2) := by decide +kernel
theorem dX2_settle_79 : decode cX2_settle 79 = .ok (.iload_n 2, 1) := by decide +kernel
theorem dX2_settle_80 : decode cX2_settle 80 = .ok (.putfield 75, 3) := by decide +kernel
theorem dX2_settle_83 : decode cX2_settle 83 = .ok (.aload 5, 2) := by decide +kernel
theorem dX2_settle_85 : decode cX2_settle 85 = .ok (.iload_n 3, 1) := by decide +kernel
theorem dX2_settle_86 : decode cX2_settle 86 = .ok (.putfield 78, 3) := by decide +kernel
theorem dX2_settle_89 : decode cX2_settle 89 = .ok (.aload 5, 2) := by decide +kernel
theorem dX2_settle_91 : decode cX2_settle 91 = .ok (.iconst 0, 1) := by decide +kernel
theorem dX2_settle_92 : decode cX2_settle 92 = .ok (.putfield 87, 3) := by decide +kernel
theorem dX2_settle_95 : decode cX2_settle 95 = .ok (.iload 4, 2) := by decide +kernel
theorem dX2_settle_97 : decode cX2_settle 97 = .ok (.ireturn, 1) := by decide +kernel
theorem dX2_stock_0 : decode cX2_stock 0 = .ok (.iload_n 1, 1) := by decide +kernel
theorem dX2_stock_1 : decode cX2_stock 1 = .ok (.tableswitch 42 0 2 #[27, 32, 37], 27) := by decide +kernel
theorem dX2_stock_28 : decode cX2_stock 28 = .ok (.aload_n 0, 1) := by decide +kernel
theorem dX2_stock_29 : decode cX2_stock 29 = .ok (.getfield 42, 3) := by decide +kernel
theorem dX2_stock_32 : decode cX2_stock 32 = .ok (.ireturn, 1) := by decide +kernel
theorem dX2_stock_33 : decode cX2_stock 33 = .ok (.aload_n 0, 1) := by decide +kernel
theorem dX2_stock_34 : decode cX2_stock 34 = .ok (.getfield 45, 3) := by decide +kernel
theorem dX2_stock_37 : decode cX2_stock 37 = .ok (.ireturn, 1) := by decide +kernel
theorem dX2_stock_38 : decode cX2_stock 38 = .ok (.aload_n 0, 1) := by decide +kernel
theorem dX2_stock_39 : decode cX2_stock 39 = .ok (.getfield 48, 3) := by decide +kernel
theorem dX2_stock_42 : decode cX2_stock 42 = .ok (.ireturn, 1) := by decide +kernel
theorem dX2_stock_43 : decode cX2_stock 43 = .ok (.aload_n 0, 1) := by decide +kernel
theorem dX2_stock_44 : decode cX2_stock 44 = .ok (.getfield 51, 3) := by decide +kernel
theorem dX2_stock_47 : decode cX2_stock 47 = .ok (.ireturn, 1) := by decide +kernel
theorem dX2_restock_0 : decode cX2_restock 0 = .ok (.iload_n 1, 1) := by decide +kernel
theorem dX2_restock_1 : decode cX2_restock 1 = .ok (.tableswitch 51 0 2 #[27, 35, 43], 27) := by decide +kernel
theorem dX2_restock_28 : decode cX2_restock 28 = .ok (.aload_n 0, 1) := by decide +kernel
theorem dX2_restock_29 : decode cX2_restock 29 = .ok (.iload_n 2, 1) := by decide +kernel
theorem dX2_restock_30 : decode cX2_restock 30 = .ok (.putfield 42, 3) := by decide +kernel
theorem dX2_restock_33 : decode cX2_restock 33 = .ok (.goto 24, 3) := by decide +kernel
theorem dX2_restock_36 : decode cX2_restock 36 = .ok (.aload_n 0, 1) := by decide +kernel
theorem dX2_restock_37 : decode cX2_restock 37 = .ok (.iload_n 2, 1) := by decide +kernel
theorem dX2_restock_38 : decode cX2_restock 38 = .ok (.putfield 45, 3) := by decide +kernel
theorem dX2_restock_41 : decode cX2_restock 41 = .ok (.goto 16, 3) := by decide +kernel
theorem dX2_restock_44 : decode cX2_restock 44 = .ok (.aload_n 0, 1) := by decide +kernel
theorem dX2_restock_45 : decode cX2_restock 45 = .ok (.iload_n 2, 1) := by decide +kernel
theorem dX2_restock_46 : decode cX2_restock 46 = .ok (.putfield 48, 3) := by decide +kernel
theorem dX2_restock_49 : decode cX2_restock 49 = .ok (.goto 8, 3) := by decide +kernel
theorem dX2_restock_52 : decode cX2_restock 52 = .ok (.aload_n 0, 1) := by decide +kernel
theorem dX2_restock_53 : decode cX2_restock 53 = .ok (.iload_n 2, 1) := by decide +kernel
theorem dX2_restock_54 : decode cX2_restock 54 = .ok (.putfield 51, 3) := by decide +kernel
theorem dX2_restock_57 : decode cX2_restock 57 = .ok (.return_, 1) := by decide +kernel
theorem dX2_isNoon_0 : decode cX2_isNoon 0 = .ok (.iload_n 1, 1) := by decide +kernel
theorem dX2_isNoon_1 : decode cX2_isNoon 1 = .ok (.aload_n 0, 1) := by decide +kernel
theorem dX2_isNoon_2 : decode cX2_isNoon 2 = .ok (.getfield 35, 3) := by decide +kernel
theorem dX2_isNoon_5 : decode cX2_isNoon 5 = .ok (.invokestatic 90, 3) := by decide +kernel
theorem dX2_isNoon_8 : decode cX2_isNoon 8 = .ok (.aload_n 0, 1) := by decide +kernel
theorem dX2_isNoon_9 : decode cX2_isNoon 9 = .ok (.getfield 35, 3) := by decide +kernel
theorem dX2_isNoon_12 : decode cX2_isNoon 12 = .ok (.iconst 1, 1) := by decide +kernel
theorem dX2_isNoon_13 : decode cX2_isNoon 13 = .ok (.isub, 1) := by decide +kernel
theorem dX2_isNoon_14 : decode cX2_isNoon 14 = .ok (.if_icmp .ne 7, 3) := by decide +kernel
theorem dX2_isNoon_17 : decode cX2_isNoon 17 = .ok (.iconst 1, 1) := by decide +kernel
theorem dX2_isNoon_18 : decode cX2_isNoon 18 = .ok (.goto 4, 3) := by decide +kernel
theorem dX2_isNoon_21 : decode cX2_isNoon 21 = .ok (.iconst 0, 1) := by decide +kernel
theorem dX2_isNoon_22 : decode cX2_isNoon 22 = .ok (.ireturn, 1) := by decide +kernel
theorem dX2_yearsToNoon_0 : decode cX2_yearsToNoon 0 = .ok (.aload_n 0, 1) := by decide +kernel
theorem dX2_yearsToNoon_1 : decode cX2_yearsToNoon 1 = .ok (.getfield 35, 3) := by decide +kernel
theorem dX2_yearsToNoon_4 : decode cX2_yearsToNoon 4 = .ok (.iconst 1, 1) := by decide +kernel
theorem dX2_yearsToNoon_5 : decode cX2_yearsToNoon 5 = .ok (.isub, 1) := by decide +kernel
theorem dX2_yearsToNoon_6 : decode cX2_yearsToNoon 6 = .ok (.aload_n 0, 1) := by decide +kernel
theorem dX2_yearsToNoon_7 : decode cX2_yearsToNoon 7 = .ok (.getfield 39, 3) := by decide +kernel
theorem dX2_yearsToNoon_10 : decode cX2_yearsToNoon 10 = .ok (.aload_n 0, 1) := by decide +kernel
theorem dX2_yearsToNoon_11 : decode cX2_yearsToNoon 11 = .ok (.getfield 35, 3) := by decide +kernel
theorem dX2_yearsToNoon_14 : decode cX2_yearsToNoon 14 = .ok (.invokestatic 90, 3) := by decide +kernel
theorem dX2_yearsToNoon_17 : decode cX2_yearsToNoon 17 = .ok (.isub, 1) := by decide +kernel
theorem dX2_yearsToNoon_18 : decode cX2_yearsToNoon 18 = .ok (.ireturn, 1) := by decide +kernel
theorem dX2_noonsWithin_0 : decode cX2_noonsWithin 0 = .ok (.iconst 0, 1) := by decide +kernel
theorem dX2_noonsWithin_1 : decode cX2_noonsWithin 1 = .ok (.istore_n 2, 1) := by decide +kernel
theorem dX2_noonsWithin_2 : decode cX2_noonsWithin 2 = .ok (.iconst 0, 1) := by decide +kernel
theorem dX2_noonsWithin_3 : decode cX2_noonsWithin 3 = .ok (.istore_n 3, 1) := by decide +kernel
theorem dX2_noonsWithin_4 : decode cX2_noonsWithin 4 = .ok (.iload_n 3, 1) := by decide +kernel
theorem dX2_noonsWithin_5 : decode cX2_noonsWithin 5 = .ok (.iload_n 1, 1) := by decide +kernel
theorem dX2_noonsWithin_6 : decode cX2_noonsWithin 6 = .ok (.if_icmp .ge 25, 3) := by decide +kernel
theorem dX2_noonsWithin_9 : decode cX2_noonsWithin 9 = .ok (.aload_n 0, 1) := by decide +kernel
theorem dX2_noonsWithin_10 : decode cX2_noonsWithin 10 = .ok (.aload_n 0, 1) := by decide +kernel
theorem dX2_noonsWithin_11 : decode cX2_noonsWithin 11 = .ok (.getfield 39, 3) := by decide +kernel
theorem dX2_noonsWithin_14 : decode cX2_noonsWithin 14 = .ok (.iload_n 3, 1) := by decide +kernel
theorem dX2_noonsWithin_15 : decode cX2_noonsWithin 15 = .ok (.iadd, 1) := by decide +kernel
theorem dX2_noonsWithin_16 : decode cX2_noonsWithin 16 = .ok (.invokevirtual 94, 3) := by decide +kernel
theorem dX2_noonsWithin_19 : decode cX2_noonsWithin 19 = .ok (.ifCond .eq 6, 3) := by decide +kernel
theorem dX2_noonsWithin_22 : decode cX2_noonsWithin 22 = .ok (.iinc 2 1, 3) := by decide +kernel
theorem dX2_noonsWithin_25 : decode cX2_noonsWithin 25 = .ok (.iinc 3 1, 3) := by decide +kernel
theorem dX2_noonsWithin_28 : decode cX2_noonsWithin 28 = .ok (.goto (-24), 3) := by decide +kernel
theorem dX2_noonsWithin_31 : decode cX2_noonsWithin 31 = .ok (.iload_n 2, 1) := by decide +kernel
theorem dX2_noonsWithin_32 : decode cX2_noonsWithin 32 = .ok (.ireturn, 1) := by decide +kernel
theorem dX2_sown_0 : decode cX2_sown 0 = .ok (.iconst 0, 1) := by decide +kernel
theorem dX2_sown_1 : decode cX2_sown 1 = .ok (.istore_n 1, 1) := by decide +kernel
theorem dX2_sown_2 : decode cX2_sown 2 = .ok (.iconst 0, 1) := by decide +kernel
theorem dX2_sown_3 : decode cX2_sown 3 = .ok (.istore_n 2, 1) := by decide +kernel
theorem dX2_sown_4 : decode cX2_sown 4 = .ok (.iload_n 2, 1) := by decide +kernel
theorem dX2_sown_5 : decode cX2_sown 5 = .ok (.aload_n 0, 1) := by decide +kernel
theorem dX2_sown_6 : decode cX2_sown 6 = .ok (.getfield 54, 3) := by decide +kernel
theorem dX2_sown_9 : decode cX2_sown 9 = .ok (.if_icmp .ge 29, 3) := by decide +kernel
theorem dX2_sown_12 : decode cX2_sown 12 = .ok (.aload_n 0, 1) := by decide +kernel
theorem dX2_sown_13 : decode cX2_sown 13 = .ok (.iload_n 2, 1) := by decide +kernel
theorem dX2_sown_14 : decode cX2_sown 14 = .ok (.invokevirtual 63, 3) := by decide +kernel
theorem dX2_sown_17 : decode cX2_sown 17 = .ok (.astore_n 3, 1) := by decide +kernel
theorem dX2_sown_18 : decode cX2_sown 18 = .ok (.aload_n 3, 1) := by decide +kernel
theorem dX2_sown_19 : decode cX2_sown 19 = .ok (.getfield 78, 3) := by decide +kernel
theorem dX2_sown_22 : decode cX2_sown 22 = .ok (.ifCond .le 10, 3) := by decide +kernel
theorem dX2_sown_25 : decode cX2_sown 25 = .ok (.iload_n 1, 1) := by decide +kernel
theorem dX2_sown_26 : decode cX2_sown 26 = .ok (.aload_n 3, 1) := by decide +kernel
theorem dX2_sown_27 : decode cX2_sown 27 = .ok (.getfield 75, 3) := by decide +kernel
theorem dX2_sown_30 : decode cX2_sown 30 = .ok (.iadd, 1) := by decide +kernel
theorem dX2_sown_31 : decode cX2_sown 31 = .ok (.istore_n 1, 1) := by decide +kernel
theorem dX2_sown_32 : decode cX2_sown 32 = .ok (.iinc 2 1, 3) := by decide +kernel
theorem dX2_sown_35 : decode cX2_sown 35 = .ok (.goto (-31), 3) := by decide +kernel
theorem dX2_sown_38 : decode cX2_sown 38 = .ok (.aload_n 0, 1) := by decide +kernel
theorem dX2_sown_39 : decode cX2_sown 39 = .ok (.getfield 45, 3) := by decide +kernel
theorem dX2_sown_42 : decode cX2_sown 42 = .ok (.iconst 3, 1) := by decide +kernel
theorem dX2_sown_43 : decode cX2_sown 43 = .ok (.aload_n 0, 1) := by decide +kernel
theorem dX2_sown_44 : decode cX2_sown 44 = .ok (.getfield 48, 3) := by decide +kernel
theorem dX2_sown_47 : decode cX2_sown 47 = .ok (.imul, 1) := by decide +kernel
theorem dX2_sown_48 : decode cX2_sown 48 = .ok (.invokestatic 98, 3) := by decide +kernel
theorem dX2_sown_51 : decode cX2_sown 51 = .ok (.iload_n 1, 1) := by decide +kernel
theorem dX2_sown_52 : decode cX2_sown 52 = .ok (.invokestatic 98, 3) := by decide +kernel
theorem dX2_sown_55 : decode cX2_sown 55 = .ok (.ireturn, 1) := by decide +kernel
theorem dX2_goBy_0 : decode cX2_goBy 0 = .ok (.aload_n 0, 1) := by decide +kernel
theorem dX2_goBy_1 : decode cX2_goBy 1 = .ok (.aload_n 0, 1) := by decide +kernel
theorem dX2_goBy_2 : decode cX2_goBy 2 = .ok (.getfield 39, 3) := by decide +kernel
theorem dX2_goBy_5 : decode cX2_goBy 5 = .ok (.invokevirtual 94, 3) := by decide +kernel
theorem dX2_goBy_8 : decode cX2_goBy 8 = .ok (.istore_n 2, 1) := by decide +kernel
theorem dX2_goBy_9 : decode cX2_goBy 9 = .ok (.iload_n 2, 1) := by decide +kernel
theorem dX2_goBy_10 : decode cX2_goBy 10 = .ok (.ifCond .eq 27, 3) := by decide +kernel
theorem dX2_goBy_13 : decode cX2_goBy 13 = .ok (.aload_n 0, 1) := by decide +kernel
theorem dX2_goBy_14 : decode cX2_goBy 14 = .ok (.iload_n 1, 1) := by decide +kernel
theorem dX2_goBy_15 : decode cX2_goBy 15 = .ok (.ifCond .eq 12, 3) := by decide +kernel
theorem dX2_goBy_18 : decode cX2_goBy 18 = .ok (.aload_n 0, 1) := by decide +kernel
theorem dX2_goBy_19 : decode cX2_goBy 19 = .ok (.invokevirtual 103, 3) := by decide +kernel
theorem dX2_goBy_22 : decode cX2_goBy 22 = .ok (.iconst 2, 1) := by decide +kernel
theorem dX2_goBy_23 : decode cX2_goBy 23 = .ok (.idiv, 1) := by decide +kernel
theorem dX2_goBy_24 : decode cX2_goBy 24 = .ok (.goto 7, 3) := by decide +kernel
theorem dX2_goBy_27 : decode cX2_goBy 27 = .ok (.aload_n 0, 1) := by decide +kernel
theorem dX2_goBy_28 : decode cX2_goBy 28 = .ok (.invokevirtual 103, 3) := by decide +kernel
theorem dX2_goBy_31 : decode cX2_goBy 31 = .ok (.invokevirtual 107, 3) := by decide +kernel
theorem dX2_goBy_34 : decode cX2_goBy 34 = .ok (.goto 7, 3) := by decide +kernel
theorem dX2_goBy_37 : decode cX2_goBy 37 = .ok (.aload_n 0, 1) := by decide +kernel
theorem dX2_goBy_38 : decode cX2_goBy 38 = .ok (.invokevirtual 111, 3) := by decide +kernel
theorem dX2_goBy_41 : decode cX2_goBy 41 = .ok (.aload_n 0, 1) := by decide +kernel
theorem dX2_goBy_42 : decode cX2_goBy 42 = .ok (.iload_n 2, 1) := by decide +kernel
theorem dX2_goBy_43 : decode cX2_goBy 43 = .ok (.invokevirtual 114, 3) := by decide +kernel
theorem dX2_goBy_46 : decode cX2_goBy 46 = .ok (.istore_n 3, 1) := by decide +kernel
theorem dX2_goBy_47 : decode cX2_goBy 47 = .ok (.iload_n 2, 1) := by decide +kernel
theorem dX2_goBy_48 : decode cX2_goBy 48 = .ok (.ifCond .eq 10, 3) := by decide +kernel
theorem dX2_goBy_51 : decode cX2_goBy 51 = .ok (.aload_n 0, 1) := by decide +kernel
theorem dX2_goBy_52 : decode cX2_goBy 52 = .ok (.invokevirtual 118, 3) := by decide +kernel
theorem dX2_goBy_55 : decode cX2_goBy 55 = .ok (.goto 15, 3) := by decide +kernel
theorem dX2_goBy_58 : decode cX2_goBy 58 = .ok (.aload_n 0, 1) := by decide +kernel
theorem dX2_goBy_59 : decode cX2_goBy 59 = .ok (.invokevirtual 121, 3) := by decide +kernel
theorem dX2_goBy_62 : decode cX2_goBy 62 = .ok (.aload_n 0, 1) := by decide +kernel
theorem dX2_goBy_63 : decode cX2_goBy 63 = .ok (.invokevirtual 124, 3) := by decide +kernel
theorem dX2_goBy_66 : decode cX2_goBy 66 = .ok (.aload_n 0, 1) := by decide +kernel
theorem dX2_goBy_67 : decode cX2_goBy 67 = .ok (.invokevirtual 127, 3) := by decide +kernel
theorem dX2_goBy_70 : decode cX2_goBy 70 = .ok (.aload_n 0, 1) := by decide +kernel
theorem dX2_goBy_71 : decode cX2_goBy 71 = .ok (.dup, 1) := by decide +kernel
theorem dX2_goBy_72 : decode cX2_goBy 72 = .ok (.getfield 57, 3) := by decide +kernel
theorem dX2_goBy_75 : decode cX2_goBy 75 = .ok (.iload_n 3, 1) := by decide +kernel
theorem dX2_goBy_76 : decode cX2_goBy 76 = .ok (.iadd, 1) := by decide +kernel
theorem dX2_goBy_77 : decode cX2_goBy 77 = .ok (.putfield 57, 3) := by decide +kernel
theorem dX2_goBy_80 : decode cX2_goBy 80 = .ok (.aload_n 0, 1) := by decide +kernel
theorem dX2_goBy_81 : decode cX2_goBy 81 = .ok (.dup, 1) := by decide +kernel
theorem dX2_goBy_82 : decode cX2_goBy 82 = .ok (.getfield 39, 3) := by decide +kernel
theorem dX2_goBy_85 : decode cX2_goBy 85 = .ok (.iconst 1, 1) := by decide +kernel
theorem dX2_goBy_86 : decode cX2_goBy 86 = .ok (.iadd, 1) := by decide +kernel
theorem dX2_goBy_87 : decode cX2_goBy 87 = .ok (.putfield 39, 3) := by decide +kernel
theorem dX2_goBy_90 : decode cX2_goBy 90 = .ok (.iload_n 3, 1) := by decide +kernel
theorem dX2_goBy_91 : decode cX2_goBy 91 = .ok (.ireturn, 1) := by decide +kernel
theorem dX2_harvest_0 : decode cX2_harvest 0 = .ok (.aload_n 0, 1) := by decide +kernel
theorem dX2_harvest_1 : decode cX2_harvest 1 = .ok (.aload_n 0, 1) := by decide +kernel
theorem dX2_harvest_2 : decode cX2_harvest 2 = .ok (.getfield 42, 3) := by decide +kernel
theorem dX2_harvest_5 : decode cX2_harvest 5 = .ok (.iconst 5, 1) := by decide +kernel
theorem dX2_harvest_6 : decode cX2_harvest 6 = .ok (.iload_n 1, 1) := by decide +kernel
theorem dX2_harvest_7 : decode cX2_harvest 7 = .ok (.imul, 1) := by decide +kernel
theorem dX2_harvest_8 : decode cX2_harvest 8 = .ok (.iadd, 1) := by decide +kernel
theorem dX2_harvest_9 : decode cX2_harvest 9 = .ok (.invokestatic 130, 3) := by decide +kernel
theorem dX2_harvest_12 : decode cX2_harvest 12 = .ok (.putfield 42, 3) := by decide +kernel
theorem dX2_harvest_15 : decode cX2_harvest 15 = .ok (.aload_n 0, 1) := by decide +kernel
theorem dX2_harvest_16 : decode cX2_harvest 16 = .ok (.aload_n 0, 1) := by decide +kernel
theorem dX2_harvest_17 : decode cX2_harvest 17 = .ok (.getfield 45, 3) := by decide +kernel
theorem dX2_harvest_20 : decode cX2_harvest 20 = .ok (.iload_n 1, 1) := by decide +kernel
theorem dX2_harvest_21 : decode cX2_harvest 21 = .ok (.iadd, 1) := by decide +kernel
theorem dX2_harvest_22 : decode cX2_harvest 22 = .ok (.invokestatic 130, 3) := by decide +kernel
theorem dX2_harvest_25 : decode cX2_harvest 25 = .ok (.putfield 45, 3) := by decide +kernel
theorem dX2_harvest_28 : decode cX2_harvest 28 = .ok (.aload_n 0, 1) := by decide +kernel
theorem dX2_harvest_29 : decode cX2_harvest 29 = .ok (.aload_n 0, 1) := by decide +kernel
theorem dX2_harvest_30 : decode cX2_harvest 30 = .ok (.getfield 48, 3) := by decide +kernel
theorem dX2_harvest_33 : decode cX2_harvest 33 = .ok (.iload_n 1, 1) := by decide +kernel
theorem dX2_harvest_34 : decode cX2_harvest 34 = .ok (.iconst 3, 1) := by decide +kernel
theorem dX2_harvest_35 : decode cX2_harvest 35 = .ok (.idiv, 1) := by decide +kernel
theorem dX2_harvest_36 : decode cX2_harvest 36 = .ok (.isub, 1) := by decide +kernel
theorem dX2_harvest_37 : decode cX2_harvest 37 = .ok (.invokestatic 130, 3) := by decide +kernel
theorem dX2_harvest_40 : decode cX2_harvest 40 = .ok (.putfield 48, 3) := by decide +kernel
theorem dX2_harvest_43 : decode cX2_harvest 43 = .ok (.aload_n 0, 1) := by decide +kernel
theorem dX2_harvest_44 : decode cX2_harvest 44 = .ok (.aload_n 0, 1) := by decide +kernel
theorem dX2_harvest_45 : decode cX2_harvest 45 = .ok (.getfield 51, 3) := by decide +kernel
theorem dX2_harvest_48 : decode cX2_harvest 48 = .ok (.bipush 10, 2) := by decide +kernel
theorem dX2_harvest_50 : decode cX2_harvest 50 = .ok (.iadd, 1) := by decide +kernel
theorem dX2_harvest_51 : decode cX2_harvest 51 = .ok (.invokestatic 130, 3) := by decide +kernel
theorem dX2_harvest_54 : decode cX2_harvest 54 = .ok (.putfield 51, 3) := by decide +kernel
theorem dX2_harvest_57 : decode cX2_harvest 57 = .ok (.return_, 1) := by decide +kernel
theorem dX2_work_0 : decode cX2_work 0 = .ok (.iconst 0, 1) := by decide +kernel
theorem dX2_work_1 : decode cX2_work 1 = .ok (.istore_n 1, 1) := by decide +kernel
theorem dX2_work_2 : decode cX2_work 2 = .ok (.iload_n 1, 1) := by decide +kernel
theorem dX2_work_3 : decode cX2_work 3 = .ok (.aload_n 0, 1) := by decide +kernel
theorem dX2_work_4 : decode cX2_work 4 = .ok (.getfield 54, 3) := by decide +kernel
theorem dX2_work_7 : decode cX2_work 7 = .ok (.if_icmp .ge 141, 3) := by decide +kernel
theorem dX2_work_10 : decode cX2_work 10 = .ok (.aload_n 0, 1) := by decide +kernel
theorem dX2_work_11 : decode cX2_work 11 = .ok (.iload_n 1, 1) := by decide +kernel
theorem dX2_work_12 : decode cX2_work 12 = .ok (.invokevirtual 63, 3) := by decide +kernel
theorem dX2_work_15 : decode cX2_work 15 = .ok (.astore_n 2, 1) := by decide +kernel
theorem dX2_work_16 : decode cX2_work 16 = .ok (.aload_n 2, 1) := by decide +kernel
theorem dX2_work_17 : decode cX2_work 17 = .ok (.getfield 81, 3) := by decide +kernel
theorem dX2_work_20 : decode cX2_work 20 = .ok (.aload_n 0, 1) := by decide +kernel
theorem dX2_work_21 : decode cX2_work 21 = .ok (.getfield 39, 3) := by decide +kernel
theorem dX2_work_24 : decode cX2_work 24 = .ok (.invokevirtual 134, 3) := by decide +kernel
theorem dX2_work_27 : decode cX2_work 27 = .ok (.ifCond .eq 6, 3) := by decide +kernel
theorem dX2_work_30 : decode cX2_work 30 = .ok (.goto 112, 3) := by decide +kernel
theorem dX2_work_33 : decode cX2_work 33 = .ok (.aload_n 2, 1) := by decide +kernel
theorem dX2_work_34 : decode cX2_work 34 = .ok (.getfield 87, 3) := by decide +kernel
theorem dX2_work_37 : decode cX2_work 37 = .ok (.tableswitch 105 1 4 #[31, 39, 61, 83], 31) := by decide +kernel
theorem dX2_work_68 : decode cX2_work 68 = .ok (.aload_n 0, 1) := by decide +kernel
theorem dX2_work_69 : decode cX2_work 69 = .ok (.iload_n 1, 1) := by decide +kernel
theorem dX2_work_70 : decode cX2_work 70 = .ok (.invokevirtual 137, 3) := by decide +kernel
theorem dX2_work_73 : decode cX2_work 73 = .ok (.goto 69, 3) := by decide +kernel
theorem dX2_work_76 : decode cX2_work 76 = .ok (.aload_n 0, 1) := by decide +kernel
theorem dX2_work_77 : decode cX2_work 77 = .ok (.aload_n 0, 1) := by decide +kernel
theorem dX2_work_78 : decode cX2_work 78 = .ok (.getfield 48, 3) := by decide +kernel
theorem dX2_work_81 : decode cX2_work 81 = .ok (.aload_n 2, 1) := by decide +kernel
theorem dX2_work_82 : decode cX2_work 82 = .ok (.getfield 81, 3) := by decide +kernel
theorem dX2_work_85 : decode cX2_work 85 = .ok (.invokevirtual 140, 3) := by decide +kernel
theorem dX2_work_88 : decode cX2_work 88 = .ok (.iadd, 1) := by decide +kernel
theorem dX2_work_89 : decode cX2_work 89 = .ok (.invokestatic 130, 3) := by decide +kernel
theorem dX2_work_92 : decode cX2_work 92 = .ok (.putfield 48, 3) := by decide +kernel
theorem dX2_work_95 : decode cX2_work 95 = .ok (.goto 47, 3) := by decide +kernel
theorem dX2_work_98 : decode cX2_work 98 = .ok (.aload_n 0, 1) := by decide +kernel
theorem dX2_work_99 : decode cX2_work 99 = .ok (.aload_n 0, 1) := by decide +kernel
theorem dX2_work_100 : decode cX2_work 100 = .ok (.getfield 45, 3) := by decide +kernel
theorem dX2_work_103 : decode cX2_work 103 = .ok (.aload_n 2, 1) := by decide +kernel
theorem dX2_work_104 : decode cX2_work 104 = .ok (.getfield 81, 3) := by decide +kernel
theorem dX2_work_107 : decode cX2_work 107 = .ok (.invokevirtual 143, 3) := by decide +kernel
theorem dX2_work_110 : decode cX2_work 110 = .ok (.iadd, 1) := by decide +kernel
theorem dX2_work_111 : decode cX2_work 111 = .ok (.invokestatic 130, 3) := by decide +kernel
theorem dX2_work_114 : decode cX2_work 114 = .ok (.putfield 45, 3) := by decide +kernel
theorem dX2_work_117 : decode cX2_work 117 = .ok (.goto 25, 3) := by decide +kernel
theorem dX2_work_120 : decode cX2_work 120 = .ok (.aload_n 0, 1) := by decide +kernel
theorem dX2_work_121 : decode cX2_work 121 = .ok (.aload_n 0, 1) := by decide +kernel
theorem dX2_work_122 : decode cX2_work 122 = .ok (.getfield 51, 3) := by decide +kernel
theorem dX2_work_125 : decode cX2_work 125 = .ok (.aload_n 2, 1) := by decide +kernel
theorem dX2_work_126 : decode cX2_work 126 = .ok (.getfield 81, 3) := by decide +kernel
theorem dX2_work_129 : decode cX2_work 129 = .ok (.invokevirtual 146, 3) := by decide +kernel
theorem dX2_work_132 : decode cX2_work 132 = .ok (.iadd, 1) := by decide +kernel
theorem dX2_work_133 : decode cX2_work 133 = .ok (.invokestatic 130, 3) := by decide +kernel
theorem dX2_work_136 : decode cX2_work 136 = .ok (.putfield 51, 3) := by decide +kernel
theorem dX2_work_139 : decode cX2_work 139 = .ok (.goto 3, 3) := by decide +kernel
theorem dX2_work_142 : decode cX2_work 142 = .ok (.iinc 1 1, 3) := by decide +kernel
theorem dX2_work_145 : decode cX2_work 145 = .ok (.goto (-143), 3) := by decide +kernel
theorem dX2_work_148 : decode cX2_work 148 = .ok (.return_, 1) := by decide +kernel
theorem dX2_teach_0 : decode cX2_teach 0 = .ok (.aload_n 0, 1) := by decide +kernel
theorem dX2_teach_1 : decode cX2_teach 1 = .ok (.iload_n 1, 1) := by decide +kernel
theorem dX2_teach_2 : decode cX2_teach 2 = .ok (.invokevirtual 63, 3) := by decide +kernel
theorem dX2_teach_5 : decode cX2_teach 5 = .ok (.getfield 78, 3) := by decide +kernel
theorem dX2_teach_8 : decode cX2_teach 8 = .ok (.iconst 1, 1) := by decide +kernel
theorem dX2_teach_9 : decode cX2_teach 9 = .ok (.isub, 1) := by decide +kernel
theorem dX2_teach_10 : decode cX2_teach 10 = .ok (.istore_n 2, 1) := by decide +kernel
theorem dX2_teach_11 : decode cX2_teach 11 = .ok (.iconst 0, 1) := by decide +kernel
theorem dX2_teach_12 : decode cX2_teach 12 = .ok (.istore_n 3, 1) := by decide +kernel
theorem dX2_teach_13 : decode cX2_teach 13 = .ok (.iload_n 3, 1) := by decide +kernel
theorem dX2_teach_14 : decode cX2_teach 14 = .ok (.aload_n 0, 1) := by decide +kernel
theorem dX2_teach_15 : decode cX2_teach 15 = .ok (.getfield 54, 3) := by decide +kernel
theorem dX2_teach_18 : decode cX2_teach 18 = .ok (.if_icmp .ge 35, 3) := by decide +kernel
theorem dX2_teach_21 : decode cX2_teach 21 = .ok (.aload_n 0, 1) := by decide +kernel
theorem dX2_teach_22 : decode cX2_teach 22 = .ok (.iload_n 3, 1) := by decide +kernel
theorem dX2_teach_23 : decode cX2_teach 23 = .ok (.invokevirtual 63, 3) := by decide +kernel
theorem dX2_teach_26 : decode cX2_teach 26 = .ok (.astore 4, 2) := by decide +kernel
theorem dX2_teach_28 : decode cX2_teach 28 = .ok (.iload_n 3, 1) := by decide +kernel
theorem dX2_teach_29 : decode cX2_teach 29 = .ok (.iload_n 1, 1) := by decide +kernel
theorem dX2_teach_30 : decode cX2_teach 30 = .ok (.if_icmp .eq 17, 3) := by decide +kernel
theorem dX2_teach_33 : decode cX2_teach 33 = .ok (.aload 4, 2) := by decide +kernel
theorem dX2_teach_35 : decode cX2_teach 35 = .ok (.aload 4, 2) := by decide +kernel
theorem dX2_teach_37 : decode cX2_teach 37 = .ok (.getfield 78, 3) := by decide +kernel
theorem dX2_teach_40 : decode cX2_teach 40 = .ok (.iload_n 2, 1) := by decide +kernel
theorem dX2_teach_41 : decode cX2_teach 41 = .ok (.invokestatic 149, 3) := by decide +kernel
theorem dX2_teach_44 : decode cX2_teach 44 = .ok (.putfield 78, 3) := by decide +kernel
theorem dX2_teach_47 : decode cX2_teach 47 = .ok (.iinc 3 1, 3) := by decide +kernel
theorem dX2_teach_50 : decode cX2_teach 50 = .ok (.goto (-37), 3) := by decide +kernel
theorem dX2_teach_53 : decode cX2_teach 53 = .ok (.return_, 1) := by decide +kernel
theorem dX2_feed_0 : decode cX2_feed 0 = .ok (.iconst 0, 1) := by decide +kernel
theorem dX2_feed_1 : decode cX2_feed 1 = .ok (.istore_n 2, 1) := by decide +kernel
theorem dX2_feed_2 : decode cX2_feed 2 = .ok (.iconst 0, 1) := by decide +kernel
theorem dX2_feed_3 : decode cX2_feed 3 = .ok (.istore_n 3, 1) := by decide +kernel
theorem dX2_feed_4 : decode cX2_feed 4 = .ok (.iload_n 3, 1) := by decide +kernel
theorem dX2_feed_5 : decode cX2_feed 5 = .ok (.aload_n 0, 1) := by decide +kernel
theorem dX2_feed_6 : decode cX2_feed 6 = .ok (.getfield 54, 3) := by decide +kernel
theorem dX2_feed_9 : decode cX2_feed 9 = .ok (.if_icmp .ge 21, 3) := by decide +kernel
theorem dX2_feed_12 : decode cX2_feed 12 = .ok (.iload_n 2, 1) := by decide +kernel
theorem dX2_feed_13 : decode cX2_feed 13 = .ok (.aload_n 0, 1) := by decide +kernel
theorem dX2_feed_14 : decode cX2_feed 14 = .ok (.iload_n 3, 1) := by decide +kernel
theorem dX2_feed_15 : decode cX2_feed 15 = .ok (.invokevirtual 63, 3) := by decide +kernel
theorem dX2_feed_18 : decode cX2_feed 18 = .ok (.iload_n 1, 1) := by decide +kernel
theorem dX2_feed_19 : decode cX2_feed 19 = .ok (.invokevirtual 152, 3) := by decide +kernel
theorem dX2_feed_22 : decode cX2_feed 22 = .ok (.iadd, 1) := by decide +kernel
theorem dX2_feed_23 : decode cX2_feed 23 = .ok (.istore_n 2, 1) := by decide +kernel
theorem dX2_feed_24 : decode cX2_feed 24 = .ok (.iinc 3 1, 3) := by decide +kernel
theorem dX2_feed_27 : decode cX2_feed 27 = .ok (.goto (-23), 3) := by decide +kernel
theorem dX2_feed_30 : decode cX2_feed 30 = .ok (.iconst 0, 1) := by decide +kernel
theorem dX2_feed_31 : decode cX2_feed 31 = .ok (.iload_n 2, 1) := by decide +kernel
theorem dX2_feed_32 : decode cX2_feed 32 = .ok (.aload_n 0, 1) := by decide +kernel
theorem dX2_feed_33 : decode cX2_feed 33 = .ok (.getfield 42, 3) := by decide +kernel
theorem dX2_feed_36 : decode cX2_feed 36 = .ok (.isub, 1) := by decide +kernel
theorem dX2_feed_37 : decode cX2_feed 37 = .ok (.invokestatic 149, 3) := by decide +kernel
theorem dX2_feed_40 : decode cX2_feed 40 = .ok (.istore_n 3, 1) := by decide +kernel
theorem dX2_feed_41 : decode cX2_feed 41 = .ok (.aload_n 0, 1) := by decide +kernel
theorem dX2_feed_42 : decode cX2_feed 42 = .ok (.aload_n 0, 1) := by decide +kernel
theorem dX2_feed_43 : decode cX2_feed 43 = .ok (.getfield 42, 3) := by decide +kernel
theorem dX2_feed_46 : decode cX2_feed 46 = .ok (.iload_n 2, 1) := by decide +kernel
theorem dX2_feed_47 : decode cX2_feed 47 = .ok (.isub, 1) := by decide +kernel
theorem dX2_feed_48 : decode cX2_feed 48 = .ok (.invokestatic 130, 3) := by decide +kernel
theorem dX2_feed_51 : decode cX2_feed 51 = .ok (.putfield 42, 3) := by decide +kernel
theorem dX2_feed_54 : decode cX2_feed 54 = .ok (.iload_n 3, 1) := by decide +kernel
theorem dX2_feed_55 : decode cX2_feed 55 = .ok (.ireturn, 1) := by decide +kernel
theorem dX2_warm_0 : decode cX2_warm 0 = .ok (.iconst 0, 1) := by decide +kernel
theorem dX2_warm_1 : decode cX2_warm 1 = .ok (.istore_n 1, 1) := by decide +kernel
theorem dX2_warm_2 : decode cX2_warm 2 = .ok (.iload_n 1, 1) := by decide +kernel
theorem dX2_warm_3 : decode cX2_warm 3 = .ok (.aload_n 0, 1) := by decide +kernel
theorem dX2_warm_4 : decode cX2_warm 4 = .ok (.getfield 54, 3) := by decide +kernel
theorem dX2_warm_7 : decode cX2_warm 7 = .ok (.if_icmp .ge 59, 3) := by decide +kernel
theorem dX2_warm_10 : decode cX2_warm 10 = .ok (.aload_n 0, 1) := by decide +kernel
theorem dX2_warm_11 : decode cX2_warm 11 = .ok (.getfield 51, 3) := by decide +kernel
theorem dX2_warm_14 : decode cX2_warm 14 = .ok (.ifCond .le 16, 3) := by decide +kernel
theorem dX2_warm_17 : decode cX2_warm 17 = .ok (.aload_n 0, 1) := by decide +kernel
theorem dX2_warm_18 : decode cX2_warm 18 = .ok (.dup, 1) := by decide +kernel
theorem dX2_warm_19 : decode cX2_warm 19 = .ok (.getfield 51, 3) := by decide +kernel
theorem dX2_warm_22 : decode cX2_warm 22 = .ok (.iconst 1, 1) := by decide +kernel
theorem dX2_warm_23 : decode cX2_warm 23 = .ok (.isub, 1) := by decide +kernel
theorem dX2_warm_24 : decode cX2_warm 24 = .ok (.putfield 51, 3) := by decide +kernel
theorem dX2_warm_27 : decode cX2_warm 27 = .ok (.goto 33, 3) := by decide +kernel
theorem dX2_warm_30 : decode cX2_warm 30 = .ok (.aload_n 0, 1) := by decide +kernel
theorem dX2_warm_31 : decode cX2_warm 31 = .ok (.dup, 1) := by decide +kernel
theorem dX2_warm_32 : decode cX2_warm 32 = .ok (.getfield 60, 3) := by decide +kernel
theorem dX2_warm_35 : decode cX2_warm 35 = .ok (.iconst 1, 1) := by decide +kernel
theorem dX2_warm_36 : decode cX2_warm 36 = .ok (.iadd, 1) := by decide +kernel
theorem dX2_warm_37 : decode cX2_warm 37 = .ok (.putfield 60, 3) := by decide +kernel
theorem dX2_warm_40 : decode cX2_warm 40 = .ok (.aload_n 0, 1) := by decide +kernel
theorem dX2_warm_41 : decode cX2_warm 41 = .ok (.iload_n 1, 1) := by decide +kernel
theorem dX2_warm_42 : decode cX2_warm 42 = .ok (.invokevirtual 63, 3) := by decide +kernel
theorem dX2_warm_45 : decode cX2_warm 45 = .ok (.astore_n 2, 1) := by decide +kernel
theorem dX2_warm_46 : decode cX2_warm 46 = .ok (.aload_n 2, 1) := by decide +kernel
theorem dX2_warm_47 : decode cX2_warm 47 = .ok (.iconst 1, 1) := by decide +kernel
theorem dX2_warm_48 : decode cX2_warm 48 = .ok (.aload_n 2, 1) := by decide +kernel
theorem dX2_warm_49 : decode cX2_warm 49 = .ok (.getfield 75, 3) := by decide +kernel
theorem dX2_warm_52 : decode cX2_warm 52 = .ok (.iconst 1, 1) := by decide +kernel
theorem dX2_warm_53 : decode cX2_warm 53 = .ok (.isub, 1) := by decide +kernel
theorem dX2_warm_54 : decode cX2_warm 54 = .ok (.invokestatic 149, 3) := by decide +kernel
theorem dX2_warm_57 : decode cX2_warm 57 = .ok (.putfield 75, 3) := by decide +kernel
theorem dX2_warm_60 : decode cX2_warm 60 = .ok (.iinc 1 1, 3) := by decide +kernel
theorem dX2_warm_63 : decode cX2_warm 63 = .ok (.goto (-61), 3) := by decide +kernel
theorem dX2_warm_66 : decode cX2_warm 66 = .ok (.return_, 1) := by decide +kernel
theorem dX2_lose_0 : decode cX2_lose 0 = .ok (.aload_n 0, 1) := by decide +kernel
theorem dX2_lose_1 : decode cX2_lose 1 = .ok (.dup, 1) := by decide +kernel
theorem dX2_lose_2 : decode cX2_lose 2 = .ok (.getfield 42, 3) := by decide +kernel
theorem dX2_lose_5 : decode cX2_lose 5 = .ok (.aload_n 0, 1) := by decide +kernel
theorem dX2_lose_6 : decode cX2_lose 6 = .ok (.getfield 42, 3) := by decide +kernel
theorem dX2_lose_9 : decode cX2_lose 9 = .ok (.bipush 10, 2) := by decide +kernel
theorem dX2_lose_11 : decode cX2_lose 11 = .ok (.idiv, 1) := by decide +kernel
theorem dX2_lose_12 : decode cX2_lose 12 = .ok (.isub, 1) := by decide +kernel
theorem dX2_lose_13 : decode cX2_lose 13 = .ok (.putfield 42, 3) := by decide +kernel
theorem dX2_lose_16 : decode cX2_lose 16 = .ok (.aload_n 0, 1) := by decide +kernel
theorem dX2_lose_17 : decode cX2_lose 17 = .ok (.dup, 1) := by decide +kernel
theorem dX2_lose_18 : decode cX2_lose 18 = .ok (.getfield 45, 3) := by decide +kernel
theorem dX2_lose_21 : decode cX2_lose 21 = .ok (.aload_n 0, 1) := by decide +kernel
theorem dX2_lose_22 : decode cX2_lose 22 = .ok (.getfield 45, 3) := by decide +kernel
theorem dX2_lose_25 : decode cX2_lose 25 = .ok (.bipush 8, 2) := by decide +kernel
theorem dX2_lose_27 : decode cX2_lose 27 = .ok (.idiv, 1) := by decide +kernel
theorem dX2_lose_28 : decode cX2_lose 28 = .ok (.isub, 1) := by decide +kernel
theorem dX2_lose_29 : decode cX2_lose 29 = .ok (.putfield 45, 3) := by decide +kernel
theorem dX2_lose_32 : decode cX2_lose 32 = .ok (.aload_n 0, 1) := by decide +kernel
theorem dX2_lose_33 : decode cX2_lose 33 = .ok (.getfield 39, 3) := by decide +kernel
theorem dX2_lose_36 : decode cX2_lose 36 = .ok (.iconst 5, 1) := by decide +kernel
theorem dX2_lose_37 : decode cX2_lose 37 = .ok (.irem, 1) := by decide +kernel
theorem dX2_lose_38 : decode cX2_lose 38 = .ok (.iconst 4, 1) := by decide +kernel
theorem dX2_lose_39 : decode cX2_lose 39 = .ok (.if_icmp .ne 16, 3) := by decide +kernel
theorem dX2_lose_42 : decode cX2_lose 42 = .ok (.aload_n 0, 1) := by decide +kernel
theorem dX2_lose_43 : decode cX2_lose 43 = .ok (.aload_n 0, 1) := by decide +kernel
theorem dX2_lose_44 : decode cX2_lose 44 = .ok (.getfield 48, 3) := by decide +kernel
theorem dX2_lose_47 : decode cX2_lose 47 = .ok (.iconst 1, 1) := by decide +kernel
theorem dX2_lose_48 : decode cX2_lose 48 = .ok (.isub, 1) := by decide +kernel
theorem dX2_lose_49 : decode cX2_lose 49 = .ok (.invokestatic 130, 3) := by decide +kernel
theorem dX2_lose_52 : decode cX2_lose 52 = .ok (.putfield 48, 3) := by decide +kernel
theorem dX2_lose_55 : decode cX2_lose 55 = .ok (.return_, 1) := by decide +kernel
theorem dX2_forget_0 : decode cX2_forget 0 = .ok (.iconst 0, 1) := by decide +kernel
theorem dX2_forget_1 : decode cX2_forget 1 = .ok (.istore_n 1, 1) := by decide +kernel
theorem dX2_forget_2 : decode cX2_forget 2 = .ok (.iload_n 1, 1) := by decide +kernel
theorem dX2_forget_3 : decode cX2_forget 3 = .ok (.aload_n 0, 1) := by decide +kernel
theorem dX2_forget_4 : decode cX2_forget 4 = .ok (.getfield 54, 3) := by decide +kernel
theorem dX2_forget_7 : decode cX2_forget 7 = .ok (.if_icmp .ge 35, 3) := by decide +kernel
theorem dX2_forget_10 : decode cX2_forget 10 = .ok (.aload_n 0, 1) := by decide +kernel
theorem dX2_forget_11 : decode cX2_forget 11 = .ok (.iload_n 1, 1) := by decide +kernel
theorem dX2_forget_12 : decode cX2_forget 12 = .ok (.invokevirtual 63, 3) := by decide +kernel
theorem dX2_forget_15 : decode cX2_forget 15 = .ok (.astore_n 2, 1) := by decide +kernel
theorem dX2_forget_16 : decode cX2_forget 16 = .ok (.aload_n 2, 1) := by decide +kernel
theorem dX2_forget_17 : decode cX2_forget 17 = .ok (.iconst 0, 1) := by decide +kernel
theorem dX2_forget_18 : decode cX2_forget 18 = .ok (.aload_n 2, 1) := by decide +kernel
theorem dX2_forget_19 : decode cX2_forget 19 = .ok (.getfield 78, 3) := by decide +kernel
theorem dX2_forget_22 : decode cX2_forget 22 = .ok (.aload_n 2, 1) := by decide +kernel
theorem dX2_forget_23 : decode cX2_forget 23 = .ok (.getfield 81, 3) := by decide +kernel
theorem dX2_forget_26 : decode cX2_forget 26 = .ok (.invokevirtual 155, 3) := by decide +kernel
theorem dX2_forget_29 : decode cX2_forget 29 = .ok (.isub, 1) := by decide +kernel
theorem dX2_forget_30 : decode cX2_forget 30 = .ok (.invokestatic 149, 3) := by decide +kernel
theorem dX2_forget_33 : decode cX2_forget 33 = .ok (.putfield 78, 3) := by decide +kernel
theorem dX2_forget_36 : decode cX2_forget 36 = .ok (.iinc 1 1, 3) := by decide +kernel
theorem dX2_forget_39 : decode cX2_forget 39 = .ok (.goto (-37), 3) := by decide +kernel
theorem dX2_forget_42 : decode cX2_forget 42 = .ok (.return_, 1) := by decide +kernel
theorem dX2_remember_0 : decode cX2_remember 0 = .ok (.iconst 0, 1) := by decide +kernel
theorem dX2_remember_1 : decode cX2_remember 1 = .ok (.istore_n 1, 1) := by decide +kernel
theorem dX2_remember_2 : decode cX2_remember 2 = .ok (.iload_n 1, 1) := by decide +kernel
theorem dX2_remember_3 : decode cX2_remember 3 = .ok (.aload_n 0, 1) := by decide +kernel
theorem dX2_remember_4 : decode cX2_remember 4 = .ok (.getfield 54, 3) := by decide +kernel
theorem dX2_remember_7 : decode cX2_remember 7 = .ok (.if_icmp .ge 19, 3) := by decide +kernel
theorem dX2_remember_10 : decode cX2_remember 10 = .ok (.aload_n 0, 1) := by decide +kernel
theorem dX2_remember_11 : decode cX2_remember 11 = .ok (.iload_n 1, 1) := by decide +kernel
theorem dX2_remember_12 : decode cX2_remember 12 = .ok (.invokevirtual 63, 3) := by decide +kernel
theorem dX2_remember_15 : decode cX2_remember 15 = .ok (.bipush 9, 2) := by decide +kernel
theorem dX2_remember_17 : decode cX2_remember 17 = .ok (.putfield 78, 3) := by decide +kernel
theorem dX2_remember_20 : decode cX2_remember 20 = .ok (.iinc 1 1, 3) := by decide +kernel
theorem dX2_remember_23 : decode cX2_remember 23 = .ok (.goto (-21), 3) := by decide +kernel
theorem dX2_remember_26 : decode cX2_remember 26 = .ok (.return_, 1) := by decide +kernel
theorem dX2_allDo_0 : decode cX2_allDo 0 = .ok (.iconst 0, 1) := by decide +kernel
theorem dX2_allDo_1 : decode cX2_allDo 1 = .ok (.istore_n 2, 1) := by decide +kernel
theorem dX2_allDo_2 : decode cX2_allDo 2 = .ok (.iload_n 2, 1) := by decide +kernel
theorem dX2_allDo_3 : decode cX2_allDo 3 = .ok (.aload_n 0, 1) := by decide +kernel
theorem dX2_allDo_4 : decode cX2_allDo 4 = .ok (.getfield 54, 3) := by decide +kernel
theorem dX2_allDo_7 : decode cX2_allDo 7 = .ok (.if_icmp .ge 18, 3) := by decide +kernel
theorem dX2_allDo_10 : decode cX2_allDo 10 = .ok (.aload_n 0, 1) := by decide +kernel
theorem dX2_allDo_11 : decode cX2_allDo 11 = .ok (.iload_n 2, 1) := by decide +kernel
theorem dX2_allDo_12 : decode cX2_allDo 12 = .ok (.invokevirtual 63, 3) := by decide +kernel
theorem dX2_allDo_15 : decode cX2_allDo 15 = .ok (.iload_n 1, 1) := by decide +kernel
theorem dX2_allDo_16 : decode cX2_allDo 16 = .ok (.putfield 87, 3) := by decide +kernel
theorem dX2_allDo_19 : decode cX2_allDo 19 = .ok (.iinc 2 1, 3) := by decide +kernel
theorem dX2_allDo_22 : decode cX2_allDo 22 = .ok (.goto (-20), 3) := by decide +kernel
theorem dX2_allDo_25 : decode cX2_allDo 25 = .ok (.return_, 1) := by decide +kernel
theorem dX2_onlyTeach_0 : decode cX2_onlyTeach 0 = .ok (.iconst 0, 1) := by decide +kernel
theorem dX2_onlyTeach_1 : decode cX2_onlyTeach 1 = .ok (.istore_n 2, 1) := by decide +kernel
theorem dX2_onlyTeach_2 : decode cX2_onlyTeach 2 = .ok (.iload_n 2, 1) := by decide +kernel
theorem dX2_onlyTeach_3 : decode cX2_onlyTeach 3 = .ok (.aload_n 0, 1) := by decide +kernel
theorem dX2_onlyTeach_4 : decode cX2_onlyTeach 4 = .ok (.getfield 54, 3) := by decide +kernel
theorem dX2_onlyTeach_7 : decode cX2_onlyTeach 7 = .ok (.if_icmp .ge 44, 3) := by decide +kernel
theorem dX2_onlyTeach_10 : decode cX2_onlyTeach 10 = .ok (.aload_n 0, 1) := by decide +kernel
theorem dX2_onlyTeach_11 : decode cX2_onlyTeach 11 = .ok (.iload_n 2, 1) := by decide +kernel
theorem dX2_onlyTeach_12 : decode cX2_onlyTeach 12 = .ok (.invokevirtual 63, 3) := by decide +kernel
theorem dX2_onlyTeach_15 : decode cX2_onlyTeach 15 = .ok (.astore_n 3, 1) := by decide +kernel
theorem dX2_onlyTeach_16 : decode cX2_onlyTeach 16 = .ok (.iload_n 1, 1) := by decide +kernel
theorem dX2_onlyTeach_17 : decode cX2_onlyTeach 17 = .ok (.iload_n 2, 1) := by decide +kernel
theorem dX2_onlyTeach_18 : decode cX2_onlyTeach 18 = .ok (.ishr, 1) := by decide +kernel
theorem dX2_onlyTeach_19 : decode cX2_onlyTeach 19 = .ok (.iconst 1, 1) := by decide +kernel
theorem dX2_onlyTeach_20 : decode cX2_onlyTeach 20 = .ok (.iand, 1) := by decide +kernel
theorem dX2_onlyTeach_21 : decode cX2_onlyTeach 21 = .ok (.ifCond .eq 11, 3) := by decide +kernel
theorem dX2_onlyTeach_24 : decode cX2_onlyTeach 24 = .ok (.aload_n 3, 1) := by decide +kernel
theorem dX2_onlyTeach_25 : decode cX2_onlyTeach 25 = .ok (.iconst 1, 1) := by decide +kernel
theorem dX2_onlyTeach_26 : decode cX2_onlyTeach 26 = .ok (.putfield 87, 3) := by decide +kernel
theorem dX2_onlyTeach_29 : decode cX2_onlyTeach 29 = .ok (.goto 16, 3) := by decide +kernel
theorem dX2_onlyTeach_32 : decode cX2_onlyTeach 32 = .ok (.aload_n 3, 1) := by decide +kernel
theorem dX2_onlyTeach_33 : decode cX2_onlyTeach 33 = .ok (.getfield 87, 3) := by decide +kernel
theorem dX2_onlyTeach_36 : decode cX2_onlyTeach 36 = .ok (.iconst 1, 1) := by decide +kernel
theorem dX2_onlyTeach_37 : decode cX2_onlyTeach 37 = .ok (.if_icmp .ne 8, 3) := by decide +kernel
theorem dX2_onlyTeach_40 : decode cX2_onlyTeach 40 = .ok (.aload_n 3, 1) := by decide +kernel
theorem dX2_onlyTeach_41 : decode cX2_onlyTeach 41 = .ok (.iconst 0, 1) := by decide +kernel
theorem dX2_onlyTeach_42 : decode cX2_onlyTeach 42 = .ok (.putfield 87, 3) := by decide +kernel
theorem dX2_onlyTeach_45 : decode cX2_onlyTeach 45 = .ok (.iinc 2 1, 3) := by decide +kernel
theorem dX2_onlyTeach_48 : decode cX2_onlyTeach 48 = .ok (.goto (-46), 3) := by decide +kernel
theorem dX2_onlyTeach_51 : decode cX2_onlyTeach 51 = .ok (.return_, 1) := by decide +kernel
theorem dX2_allKnow_0 : decode cX2_allKnow 0 = .ok (.iconst 0, 1) := by decide +kernel
theorem dX2_allKnow_1 : decode cX2_allKnow 1 = .ok (.istore_n 1, 1) := by decide +kernel
theorem dX2_allKnow_2 : decode cX2_allKnow 2 = .ok (.iload_n 1, 1) := by decide +kernel
theorem dX2_allKnow_3 : decode cX2_allKnow 3 = .ok (.aload_n 0, 1) := by decide +kernel
theorem dX2_allKnow_4 : decode cX2_allKnow 4 = .ok (.getfield 54, 3) := by decide +kernel
theorem dX2_allKnow_7 : decode cX2_allKnow 7 = .ok (.if_icmp .ge 22, 3) := by decide +kernel
theorem dX2_allKnow_10 : decode cX2_allKnow 10 = .ok (.aload_n 0, 1) := by decide +kernel
theorem dX2_allKnow_11 : decode cX2_allKnow 11 = .ok (.iload_n 1, 1) := by decide +kernel
theorem dX2_allKnow_12 : decode cX2_allKnow 12 = .ok (.invokevirtual 63, 3) := by decide +kernel
theorem dX2_allKnow_15 : decode cX2_allKnow 15 = .ok (.getfield 78, 3) := by decide +kernel
theorem dX2_allKnow_18 : decode cX2_allKnow 18 = .ok (.ifCond .gt 5, 3) := by decide +kernel
theorem dX2_allKnow_21 : decode cX2_allKnow 21 = .ok (.iconst 0, 1) := by decide +kernel
theorem dX2_allKnow_22 : decode cX2_allKnow 22 = .ok (.ireturn, 1) := by decide +kernel
theorem dX2_allKnow_23 : decode cX2_allKnow 23 = .ok (.iinc 1 1, 3) := by decide +kernel
theorem dX2_allKnow_26 : decode cX2_allKnow 26 = .ok (.goto (-24), 3) := by decide +kernel
theorem dX2_allKnow_29 : decode cX2_allKnow 29 = .ok (.iconst 1, 1) := by decide +kernel
theorem dX2_allKnow_30 : decode cX2_allKnow 30 = .ok (.ireturn, 1) := by decide +kernel
theorem dX2_mixInto_0 : decode cX2_mixInto 0 = .ok (.lload_n 1, 1) := by decide +kernel
theorem dX2_mixInto_1 : decode cX2_mixInto 1 = .ok (.lstore_n 3, 1) := by decide +kernel
theorem dX2_mixInto_2 : decode cX2_mixInto 2 = .ok (.iconst 0, 1) := by decide +kernel
theorem dX2_mixInto_3 : decode cX2_mixInto 3 = .ok (.istore 5, 2) := by decide +kernel
theorem dX2_mixInto_5 : decode cX2_mixInto 5 = .ok (.iload 5, 2) := by decide +kernel
theorem dX2_mixInto_7 : decode cX2_mixInto 7 = .ok (.aload_n 0, 1) := by decide +kernel
theorem dX2_mixInto_8 : decode cX2_mixInto 8 = .ok (.getfield 54, 3) := by decide +kernel
theorem dX2_mixInto_11 : decode cX2_mixInto 11 = .ok (.if_icmp .ge 57, 3) := by decide +kernel
theorem dX2_mixInto_14 : decode cX2_mixInto 14 = .ok (.aload_n 0, 1) := by decide +kernel
theorem dX2_mixInto_15 : decode cX2_mixInto 15 = .ok (.iload 5, 2) := by decide +kernel
theorem dX2_mixInto_17 : decode cX2_mixInto 17 = .ok (.invokevirtual 63, 3) := by decide +kernel
theorem dX2_mixInto_20 : decode cX2_mixInto 20 = .ok (.astore 6, 2) := by decide +kernel
theorem dX2_mixInto_22 : decode cX2_mixInto 22 = .ok (.lload_n 3, 1) := by decide +kernel
theorem dX2_mixInto_23 : decode cX2_mixInto 23 = .ok (.aload 6, 2) := by decide +kernel
theorem dX2_mixInto_25 : decode cX2_mixInto 25 = .ok (.getfield 84, 3) := by decide +kernel
theorem dX2_mixInto_28 : decode cX2_mixInto 28 = .ok (.i2l, 1) := by decide +kernel
theorem dX2_mixInto_29 : decode cX2_mixInto 29 = .ok (.invokestatic 158, 3) := by decide +kernel
theorem dX2_mixInto_32 : decode cX2_mixInto 32 = .ok (.aload 6, 2) := by decide +kernel
theorem dX2_mixInto_34 : decode cX2_mixInto 34 = .ok (.getfield 75, 3) := by decide +kernel
theorem dX2_mixInto_37 : decode cX2_mixInto 37 = .ok (.i2l, 1) := by decide +kernel
theorem dX2_mixInto_38 : decode cX2_mixInto 38 = .ok (.invokestatic 158, 3) := by decide +kernel
theorem dX2_mixInto_41 : decode cX2_mixInto 41 = .ok (.lstore_n 3, 1) := by decide +kernel
theorem dX2_mixInto_42 : decode cX2_mixInto 42 = .ok (.lload_n 3, 1) := by decide +kernel
theorem dX2_mixInto_43 : decode cX2_mixInto 43 = .ok (.aload 6, 2) := by decide +kernel
theorem dX2_mixInto_45 : decode cX2_mixInto 45 = .ok (.getfield 78, 3) := by decide +kernel
theorem dX2_mixInto_48 : decode cX2_mixInto 48 = .ok (.i2l, 1) := by decide +kernel
theorem dX2_mixInto_49 : decode cX2_mixInto 49 = .ok (.invokestatic 158, 3) := by decide +kernel
theorem dX2_mixInto_52 : decode cX2_mixInto 52 = .ok (.aload 6, 2) := by decide +kernel
theorem dX2_mixInto_54 : decode cX2_mixInto 54 = .ok (.getfield 87, 3) := by decide +kernel
theorem dX2_mixInto_57 : decode cX2_mixInto 57 = .ok (.i2l, 1) := by decide +kernel
theorem dX2_mixInto_58 : decode cX2_mixInto 58 = .ok (.invokestatic 158, 3) := by decide +kernel
theorem dX2_mixInto_61 : decode cX2_mixInto 61 = .ok (.lstore_n 3, 1) := by decide +kernel
theorem dX2_mixInto_62 : decode cX2_mixInto 62 = .ok (.iinc 5 1, 3) := by decide +kernel
theorem dX2_mixInto_65 : decode cX2_mixInto 65 = .ok (.goto (-60), 3) := by decide +kernel
theorem dX2_mixInto_68 : decode cX2_mixInto 68 = .ok (.lload_n 3, 1) := by decide +kernel
theorem dX2_mixInto_69 : decode cX2_mixInto 69 = .ok (.lreturn, 1) := by decide +kernel
theorem dX3_init_0 : decode cX3_init 0 = .ok (.aload_n 0, 1) := by decide +kernel
theorem dX3_init_1 : decode cX3_init 1 = .ok (.invokespecial 1, 3) := by decide +kernel
theorem dX3_init_4 : decode cX3_init 4 = .ok (.return_, 1) := by decide +kernel
theorem dX3_makes_0 : decode cX3_makes 0 = .ok (.iconst 1, 1) := by decide +kernel
theorem dX3_makes_1 : decode cX3_makes 1 = .ok (.ireturn, 1) := by decide +kernel
theorem dX3_tends_0 : decode cX3_tends 0 = .ok (.iconst 1, 1) := by decide +kernel
theorem dX3_tends_1 : decode cX3_tends 1 = .ok (.ireturn, 1) := by decide +kernel
theorem dX3_digs_0 : decode cX3_digs 0 = .ok (.iconst 3, 1) := by decide +kernel
theorem dX3_digs_1 : decode cX3_digs 1 = .ok (.ireturn, 1) := by decide +kernel
theorem dX3_meal_0 : decode cX3_meal 0 = .ok (.iload_n 1, 1) := by decide +kernel
theorem dX3_meal_1 : decode cX3_meal 1 = .ok (.ireturn, 1) := by decide +kernel
theorem dX3_forgets_0 : decode cX3_forgets 0 = .ok (.iconst 1, 1) := by decide +kernel
theorem dX3_forgets_1 : decode cX3_forgets 1 = .ok (.ireturn, 1) := by decide +kernel
theorem dX3_rests_0 : decode cX3_rests 0 = .ok (.iconst 0, 1) := by decide +kernel
theorem dX3_rests_1 : decode cX3_rests 1 = .ok (.ireturn, 1) := by decide +kernel
theorem dX4_init_0 : decode cX4_init 0 = .ok (.aload_n 0, 1) := by decide +kernel
theorem dX4_init_1 : decode cX4_init 1 = .ok (.invokespecial 1, 3) := by decide +kernel
theorem dX4_init_4 : decode cX4_init 4 = .ok (.return_, 1) := by decide +kernel
theorem dX4_tends_0 : decode cX4_tends 0 = .ok (.aload_n 0, 1) := by decide +kernel
theorem dX4_tends_1 : decode cX4_tends 1 = .ok (.invokespecial 7, 3) := by decide +kernel
theorem dX4_tends_4 : decode cX4_tends 4 = .ok (.iconst 3, 1) := by decide +kernel
theorem dX4_tends_5 : decode cX4_tends 5 = .ok (.iadd, 1) := by decide +kernel
theorem dX4_tends_6 : decode cX4_tends 6 = .ok (.ireturn, 1) := by decide +kernel
theorem dX5_init_0 : decode cX5_init 0 = .ok (.aload_n 0, 1) := by decide +kernel
theorem dX5_init_1 : decode cX5_init 1 = .ok (.invokespecial 3, 3) := by decide +kernel
theorem dX5_init_4 : decode cX5_init 4 = .ok (.aload_n 0, 1) := by decide +kernel
theorem dX5_init_5 : decode cX5_init 5 = .ok (.new 9, 3) := by decide +kernel
theorem dX5_init_8 : decode cX5_init 8 = .ok (.dup, 1) := by decide +kernel
theorem dX5_init_9 : decode cX5_init 9 = .ok (.invokespecial 11, 3) := by decide +kernel
theorem dX5_init_12 : decode cX5_init 12 = .ok (.putfield 12, 3) := by decide +kernel
theorem dX5_init_15 : decode cX5_init 15 = .ok (.aload_n 0, 1) := by decide +kernel
theorem dX5_init_16 : decode cX5_init 16 = .ok (.bipush 6, 2) := by decide +kernel
theorem dX5_init_18 : decode cX5_init 18 = .ok (.anewarray 18, 3) := by decide +kernel
theorem dX5_init_21 : decode cX5_init 21 = .ok (.putfield 20, 3) := by decide +kernel
theorem dX5_init_24 : decode cX5_init 24 = .ok (.aload_n 0, 1) := by decide +kernel
theorem dX5_init_25 : decode cX5_init 25 = .ok (.new 18, 3) := by decide +kernel
theorem dX5_init_28 : decode cX5_init 28 = .ok (.dup, 1) := by decide +kernel
theorem dX5_init_29 : decode cX5_init 29 = .ok (.aload_n 1, 1) := by decide +kernel
theorem dX5_init_30 : decode cX5_init 30 = .ok (.invokespecial 24, 3) := by decide +kernel
theorem dX5_init_33 : decode cX5_init 33 = .ok (.putfield 27, 3) := by decide +kernel
theorem dX5_init_36 : decode cX5_init 36 = .ok (.iconst 0, 1) := by decide +kernel
theorem dX5_init_37 : decode cX5_init 37 = .ok (.istore_n 2, 1) := by decide +kernel
theorem dX5_init_38 : decode cX5_init 38 = .ok (.iload_n 2, 1) := by decide +kernel
theorem dX5_init_39 : decode cX5_init 39 = .ok (.aload_n 0, 1) := by decide +kernel
theorem dX5_init_40 : decode cX5_init 40 = .ok (.getfield 20, 3) := by decide +kernel
theorem dX5_init_43 : decode cX5_init 43 = .ok (.arraylength, 1) := by decide +kernel
theorem dX5_init_44 : decode cX5_init 44 = .ok (.if_icmp .ge 23, 3) := by decide +kernel
theorem dX5_init_47 : decode cX5_init 47 = .ok (.aload_n 0, 1) := by decide +kernel
theorem dX5_init_48 : decode cX5_init 48 = .ok (.getfield 20, 3) := by decide +kernel
theorem dX5_init_51 : decode cX5_init 51 = .ok (.iload_n 2, 1) := by decide +kernel
theorem dX5_init_52 : decode cX5_init 52 = .ok (.new 18, 3) := by decide +kernel
theorem dX5_init_55 : decode cX5_init 55 = .ok (.dup, 1) := by decide +kernel
theorem dX5_init_56 : decode cX5_init 56 = .ok (.aload_n 1, 1) := by decide +kernel
theorem dX5_init_57 : decode cX5_init 57 = .ok (.invokespecial 24, 3) := by decide +kernel
theorem dX5_init_60 : decode cX5_init 60 = .ok (.aastore, 1) := by decide +kernel
theorem dX5_init_61 : decode cX5_init 61 = .ok (.iinc 2 1, 3) := by decide +kernel
theorem dX5_init_64 : decode cX5_init 64 = .ok (.goto (-26), 3) := by decide +kernel
theorem dX5_init_67 : decode cX5_init 67 = .ok (.return_, 1) := by decide +kernel
theorem dX5_begin_0 : decode cX5_begin 0 = .ok (.aload_n 0, 1) := by decide +kernel
theorem dX5_begin_1 : decode cX5_begin 1 = .ok (.getfield 27, 3) := by decide +kernel
theorem dX5_begin_4 : decode cX5_begin 4 = .ok (.iload_n 1, 1) := by decide +kernel
theorem dX5_begin_5 : decode cX5_begin 5 = .ok (.invokevirtual 31, 3) := by decide +kernel
theorem dX5_begin_8 : decode cX5_begin 8 = .ok (.aload_n 0, 1) := by decide +kernel
theorem dX5_begin_9 : decode cX5_begin 9 = .ok (.getfield 12, 3) := by decide +kernel
theorem dX5_begin_12 : decode cX5_begin 12 = .ok (.invokevirtual 35, 3) := by decide +kernel
theorem dX5_begin_15 : decode cX5_begin 15 = .ok (.aload_n 0, 1) := by decide +kernel
theorem dX5_begin_16 : decode cX5_begin 16 = .ok (.iconst 0, 1) := by decide +kernel
theorem dX5_begin_17 : decode cX5_begin 17 = .ok (.putfield 37, 3) := by decide +kernel
theorem dX5_begin_20 : decode cX5_begin 20 = .ok (.return_, 1) := by decide +kernel
theorem dX5_setTo_0 : decode cX5_setTo 0 = .ok (.aload_n 0, 1) := by decide +kernel
theorem dX5_setTo_1 : decode cX5_setTo 1 = .ok (.getfield 27, 3) := by decide +kernel
theorem dX5_setTo_4 : decode cX5_setTo 4 = .ok (.aload_n 1, 1) := by decide +kernel
theorem dX5_setTo_5 : decode cX5_setTo 5 = .ok (.getfield 27, 3) := by decide +kernel
theorem dX5_setTo_8 : decode cX5_setTo 8 = .ok (.invokevirtual 41, 3) := by decide +kernel
theorem dX5_setTo_11 : decode cX5_setTo 11 = .ok (.aload_n 0, 1) := by decide +kernel
theorem dX5_setTo_12 : decode cX5_setTo 12 = .ok (.getfield 12, 3) := by decide +kernel
theorem dX5_setTo_15 : decode cX5_setTo 15 = .ok (.aload_n 1, 1) := by decide +kernel
theorem dX5_setTo_16 : decode cX5_setTo 16 = .ok (.getfield 12, 3) := by decide +kernel
theorem dX5_setTo_19 : decode cX5_setTo 19 = .ok (.invokevirtual 45, 3) := by decide +kernel
theorem dX5_setTo_22 : decode cX5_setTo 22 = .ok (.aload_n 0, 1) := by decide +kernel
theorem dX5_setTo_23 : decode cX5_setTo 23 = .ok (.aload_n 1, 1) := by decide +kernel
theorem dX5_setTo_24 : decode cX5_setTo 24 = .ok (.getfield 48, 3) := by decide +kernel
theorem dX5_setTo_27 : decode cX5_setTo 27 = .ok (.putfield 48, 3) := by decide +kernel
theorem dX5_setTo_30 : decode cX5_setTo 30 = .ok (.aload_n 0, 1) := by decide +kernel
theorem dX5_setTo_31 : decode cX5_setTo 31 = .ok (.aload_n 1, 1) := by decide +kernel
theorem dX5_setTo_32 : decode cX5_setTo 32 = .ok (.getfield 37, 3) := by decide +kernel
theorem dX5_setTo_35 : decode cX5_setTo 35 = .ok (.putfield 37, 3) := by decide +kernel
theorem dX5_setTo_38 : decode cX5_setTo 38 = .ok (.iconst 0, 1) := by decide +kernel
theorem dX5_setTo_39 : decode cX5_setTo 39 = .ok (.istore_n 2, 1) := by decide +kernel
theorem dX5_setTo_40 : decode cX5_setTo 40 = .ok (.iload_n 2, 1) := by decide +kernel
theorem dX5_setTo_41 : decode cX5_setTo 41 = .ok (.aload_n 0, 1) := by decide +kernel
theorem dX5_setTo_42 : decode cX5_setTo 42 = .ok (.getfield 20, 3) := by decide +kernel
theorem dX5_setTo_45 : decode cX5_setTo 45 = .ok (.arraylength, 1) := by decide +kernel
theorem dX5_setTo_46 : decode cX5_setTo 46 = .ok (.if_icmp .ge 43, 3) := by decide +kernel
theorem dX5_setTo_49 : decode cX5_setTo 49 = .ok (.aload_n 0, 1) := by decide +kernel
theorem dX5_setTo_50 : decode cX5_setTo 50 = .ok (.getfield 20, 3) := by decide +kernel
theorem dX5_setTo_53 : decode cX5_setTo 53 = .ok (.iload_n 2, 1) := by decide +kernel
theorem dX5_setTo_54 : decode cX5_setTo 54 = .ok (.invokestatic 51, 3) := by decide +kernel
theorem dX5_setTo_57 : decode cX5_setTo 57 = .ok (.astore_n 3, 1) := by decide +kernel
theorem dX5_setTo_58 : decode cX5_setTo 58 = .ok (.aload_n 1, 1) := by decide +kernel
theorem dX5_setTo_59 : decode cX5_setTo 59 = .ok (.getfield 20, 3) := by decide +kernel
theorem dX5_setTo_62 : decode cX5_setTo 62 = .ok (.iload_n 2, 1) := by decide +kernel
theorem dX5_setTo_63 : decode cX5_setTo 63 = .ok (.invokestatic 51, 3) := by decide +kernel
theorem dX5_setTo_66 : decode cX5_setTo 66 = .ok (.astore 4, 2) := by decide +kernel
theorem dX5_setTo_68 : decode cX5_setTo 68 = .ok (.aload_n 3, 1) := by decide +kernel
theorem dX5_setTo_69 : decode cX5_setTo 69 = .ok (.ifnull 14, 3) := by decide +kernel
theorem dX5_setTo_72 : decode cX5_setTo 72 = .ok (.aload 4, 2) := by decide +kernel
theorem dX5_setTo_74 : decode cX5_setTo 74 = .ok (.ifnull 9, 3) := by decide +kernel
theorem dX5_setTo_77 : decode cX5_setTo 77 = .ok (.aload_n 3, 1) := by decide +kernel
theorem dX5_setTo_78 : decode cX5_setTo 78 = .ok (.aload 4, 2) := by decide +kernel
theorem dX5_setTo_80 : decode cX5_setTo 80 = .ok (.invokevirtual 41, 3) := by decide +kernel
theorem dX5_setTo_83 : decode cX5_setTo 83 = .ok (.iinc 2 1, 3) := by decide +kernel
theorem dX5_setTo_86 : decode cX5_setTo 86 = .ok (.goto (-46), 3) := by decide +kernel
theorem dX5_setTo_89 : decode cX5_setTo 89 = .ok (.return_, 1) := by decide +kernel
theorem dX5_goBy_0 : decode cX5_goBy 0 = .ok (.aload_n 0, 1) := by decide +kernel
theorem dX5_goBy_1 : decode cX5_goBy 1 = .ok (.aload_n 0, 1) := by decide +kernel
theorem dX5_goBy_2 : decode cX5_goBy 2 = .ok (.getfield 48, 3) := by decide +kernel
theorem dX5_goBy_5 : decode cX5_goBy 5 = .ok (.iconst 1, 1) := by decide +kernel
theorem dX5_goBy_6 : decode cX5_goBy 6 = .ok (.iadd, 1) := by decide +kernel
theorem dX5_goBy_7 : decode cX5_goBy 7 = .ok (.bipush 6, 2) := by decide +kernel
theorem dX5_goBy_9 : decode cX5_goBy 9 = .ok (.invokestatic 55, 3) := by decide +kernel
theorem dX5_goBy_12 : decode cX5_goBy 12 = .ok (.putfield 48, 3) := by decide +kernel
theorem dX5_goBy_15 : decode cX5_goBy 15 = .ok (.aload_n 0, 1) := by decide +kernel
theorem dX5_goBy_16 : decode cX5_goBy 16 = .ok (.bipush 6, 2) := by decide +kernel
theorem dX5_goBy_18 : decode cX5_goBy 18 = .ok (.aload_n 0, 1) := by decide +kernel
theorem dX5_goBy_19 : decode cX5_goBy 19 = .ok (.getfield 37, 3) := by decide +kernel
theorem dX5_goBy_22 : decode cX5_goBy 22 = .ok (.iconst 1, 1) := by decide +kernel
theorem dX5_goBy_23 : decode cX5_goBy 23 = .ok (.iadd, 1) := by decide +kernel
theorem dX5_goBy_24 : decode cX5_goBy 24 = .ok (.invokestatic 59, 3) := by decide +kernel
theorem dX5_goBy_27 : decode cX5_goBy 27 = .ok (.putfield 37, 3) := by decide +kernel
theorem dX5_goBy_30 : decode cX5_goBy 30 = .ok (.aload_n 0, 1) := by decide +kernel
theorem dX5_goBy_31 : decode cX5_goBy 31 = .ok (.getfield 20, 3) := by decide +kernel
theorem dX5_goBy_34 : decode cX5_goBy 34 = .ok (.aload_n 0, 1) := by decide +kernel
theorem dX5_goBy_35 : decode cX5_goBy 35 = .ok (.getfield 48, 3) := by decide +kernel
theorem dX5_goBy_38 : decode cX5_goBy 38 = .ok (.invokestatic 51, 3) := by decide +kernel
theorem dX5_goBy_41 : decode cX5_goBy 41 = .ok (.astore_n 1, 1) := by decide +kernel
theorem dX5_goBy_42 : decode cX5_goBy 42 = .ok (.aload_n 1, 1) := by decide +kernel
theorem dX5_goBy_43 : decode cX5_goBy 43 = .ok (.ifnull 11, 3) := by decide +kernel
theorem dX5_goBy_46 : decode cX5_goBy 46 = .ok (.aload_n 1, 1) := by decide +kernel
theorem dX5_goBy_47 : decode cX5_goBy 47 = .ok (.aload_n 0, 1) := by decide +kernel
theorem dX5_goBy_48 : decode cX5_goBy 48 = .ok (.getfield 27, 3) := by decide +kernel
theorem dX5_goBy_51 : decode cX5_goBy 51 = .ok (.invokevirtual 41, 3) := by decide +kernel
theorem dX5_goBy_54 : decode cX5_goBy 54 = .ok (.aload_n 0, 1) := by decide +kernel
theorem dX5_goBy_55 : decode cX5_goBy 55 = .ok (.getfield 27, 3) := by decide +kernel
theorem dX5_goBy_58 : decode cX5_goBy 58 = .ok (.iconst 0, 1) := by decide +kernel
theorem dX5_goBy_59 : decode cX5_goBy 59 = .ok (.invokevirtual 64, 3) := by decide +kernel
theorem dX5_goBy_62 : decode cX5_goBy 62 = .ok (.ireturn, 1) := by decide +kernel
theorem dX5_goBack_0 : decode cX5_goBack 0 = .ok (.aload_n 0, 1) := by decide +kernel
theorem dX5_goBack_1 : decode cX5_goBack 1 = .ok (.getfield 20, 3) := by decide +kernel
theorem dX5_goBack_4 : decode cX5_goBack 4 = .ok (.aload_n 0, 1) := by decide +kernel
theorem dX5_goBack_5 : decode cX5_goBack 5 = .ok (.getfield 48, 3) := by decide +kernel
theorem dX5_goBack_8 : decode cX5_goBack 8 = .ok (.invokestatic 51, 3) := by decide +kernel
theorem dX5_goBack_11 : decode cX5_goBack 11 = .ok (.astore_n 1, 1) := by decide +kernel
theorem dX5_goBack_12 : decode cX5_goBack 12 = .ok (.aload_n 0, 1) := by decide +kernel
theorem dX5_goBack_13 : decode cX5_goBack 13 = .ok (.getfield 37, 3) := by decide +kernel
theorem dX5_goBack_16 : decode cX5_goBack 16 = .ok (.ifCond .eq 7, 3) := by decide +kernel
theorem dX5_goBack_19 : decode cX5_goBack 19 = .ok (.aload_n 1, 1) := by decide +kernel
theorem dX5_goBack_20 : decode cX5_goBack 20 = .ok (.ifnonnull 5, 3) := by decide +kernel
theorem dX5_goBack_23 : decode cX5_goBack 23 = .ok (.iconst 0, 1) := by decide +kernel
theorem dX5_goBack_24 : decode cX5_goBack 24 = .ok (.ireturn, 1) := by decide +kernel
theorem dX5_goBack_25 : decode cX5_goBack 25 = .ok (.aload_n 0, 1) := by decide +kernel
theorem dX5_goBack_26 : decode cX5_goBack 26 = .ok (.getfield 27, 3) := by decide +kernel
theorem dX5_goBack_29 : decode cX5_goBack 29 = .ok (.aload_n 1, 1) := by decide +kernel
theorem dX5_goBack_30 : decode cX5_goBack 30 = .ok (.invokevirtual 68, 3) := by decide +kernel
theorem dX5_goBack_33 : decode cX5_goBack 33 = .ok (.aload_n 0, 1) := by decide +kernel
theorem dX5_goBack_34 : decode cX5_goBack 34 = .ok (.aload_n 0, 1) := by decide +kernel
theorem dX5_goBack_35 : decode cX5_goBack 35 = .ok (.getfield 48, 3) := by decide +kernel
theorem dX5_goBack_38 : decode cX5_goBack 38 = .ok (.bipush 6, 2) := by decide +kernel
theorem dX5_goBack_40 : decode cX5_goBack 40 = .ok (.iadd, 1) := by decide +kernel
theorem dX5_goBack_41 : decode cX5_goBack 41 = .ok (.iconst 1, 1) := by decide +kernel
theorem dX5_goBack_42 : decode cX5_goBack 42 = .ok (.isub, 1) := by decide +kernel
theorem dX5_goBack_43 : decode cX5_goBack 43 = .ok (.bipush 6, 2) := by decide +kernel
theorem dX5_goBack_45 : decode cX5_goBack 45 = .ok (.invokestatic 55, 3) := by decide +kernel
theorem dX5_goBack_48 : decode cX5_goBack 48 = .ok (.putfield 48, 3) := by decide +kernel
theorem dX5_goBack_51 : decode cX5_goBack 51 = .ok (.aload_n 0, 1) := by decide +kernel
theorem dX5_goBack_52 : decode cX5_goBack 52 = .ok (.dup, 1) := by decide +kernel
theorem dX5_goBack_53 : decode cX5_goBack 53 = .ok (.getfield 37, 3) := by decide +kernel
theorem dX5_goBack_56 : decode cX5_goBack 56 = .ok (.iconst 1, 1) := by decide +kernel
theorem dX5_goBack_57 : decode cX5_goBack 57 = .ok (.isub, 1) := by decide +kernel
theorem dX5_goBack_58 : decode cX5_goBack 58 = .ok (.putfield 37, 3) := by decide +kernel
theorem dX5_goBack_61 : decode cX5_goBack 61 = .ok (.iconst 1, 1) := by decide +kernel
theorem dX5_goBack_62 : decode cX5_goBack 62 = .ok (.ireturn, 1) := by decide +kernel
theorem dX6_init_0 : decode cX6_init 0 = .ok (.aload_n 0, 1) := by decide +kernel
theorem dX6_init_1 : decode cX6_init 1 = .ok (.invokespecial 1, 3) := by decide +kernel
theorem dX6_init_4 : decode cX6_init 4 = .ok (.return_, 1) := by decide +kernel
theorem dX6_makes_0 : decode cX6_makes 0 = .ok (.aload_n 0, 1) := by decide +kernel
theorem dX6_makes_1 : decode cX6_makes 1 = .ok (.invokespecial 7, 3) := by decide +kernel
theorem dX6_makes_4 : decode cX6_makes 4 = .ok (.iconst 2, 1) := by decide +kernel
theorem dX6_makes_5 : decode cX6_makes 5 = .ok (.iadd, 1) := by decide +kernel
theorem dX6_makes_6 : decode cX6_makes 6 = .ok (.ireturn, 1) := by decide +kernel
theorem dX6_meal_0 : decode cX6_meal 0 = .ok (.aload_n 0, 1) := by decide +kernel
theorem dX6_meal_1 : decode cX6_meal 1 = .ok (.iload_n 1, 1) := by decide +kernel
theorem dX6_meal_2 : decode cX6_meal 2 = .ok (.iload_n 2, 1) := by decide +kernel
theorem dX6_meal_3 : decode cX6_meal 3 = .ok (.invokespecial 11, 3) := by decide +kernel
theorem dX6_meal_6 : decode cX6_meal 6 = .ok (.iconst 1, 1) := by decide +kernel
theorem dX6_meal_7 : decode cX6_meal 7 = .ok (.iadd, 1) := by decide +kernel
theorem dX6_meal_8 : decode cX6_meal 8 = .ok (.ireturn, 1) := by decide +kernel
theorem dX7_init_0 : decode cX7_init 0 = .ok (.aload_n 0, 1) := by decide +kernel
theorem dX7_init_1 : decode cX7_init 1 = .ok (.invokespecial 3, 3) := by decide +kernel
theorem dX7_init_4 : decode cX7_init 4 = .ok (.aload_n 0, 1) := by decide +kernel
theorem dX7_init_5 : decode cX7_init 5 = .ok (.sipush 150, 3) := by decide +kernel
theorem dX7_init_8 : decode cX7_init 8 = .ok (.newarray .int, 2) := by decide +kernel
theorem dX7_init_10 : decode cX7_init 10 = .ok (.putfield 9, 3) := by decide +kernel
theorem dX7_init_13 : decode cX7_init 13 = .ok (.aload_n 0, 1) := by decide +kernel
theorem dX7_init_14 : decode cX7_init 14 = .ok (.iconst 3, 1) := by decide +kernel
theorem dX7_init_15 : decode cX7_init 15 = .ok (.newarray .int, 2) := by decide +kernel
theorem dX7_init_17 : decode cX7_init 17 = .ok (.putfield 15, 3) := by decide +kernel
theorem dX7_init_20 : decode cX7_init 20 = .ok (.return_, 1) := by decide +kernel
theorem dX7_add_0 : decode cX7_add 0 = .ok (.aload_n 0, 1) := by decide +kernel
theorem dX7_add_1 : decode cX7_add 1 = .ok (.getfield 9, 3) := by decide +kernel
theorem dX7_add_4 : decode cX7_add 4 = .ok (.aload_n 0, 1) := by decide +kernel
theorem dX7_add_5 : decode cX7_add 5 = .ok (.getfield 18, 3) := by decide +kernel
theorem dX7_add_8 : decode cX7_add 8 = .ok (.iload_n 1, 1) := by decide +kernel
theorem dX7_add_9 : decode cX7_add 9 = .ok (.invokestatic 22, 3) := by decide +kernel
theorem dX7_add_12 : decode cX7_add 12 = .ok (.aload_n 0, 1) := by decide +kernel
theorem dX7_add_13 : decode cX7_add 13 = .ok (.dup, 1) := by decide +kernel
theorem dX7_add_14 : decode cX7_add 14 = .ok (.getfield 18, 3) := by decide +kernel
theorem dX7_add_17 : decode cX7_add 17 = .ok (.iconst 1, 1) := by decide +kernel
theorem dX7_add_18 : decode cX7_add 18 = .ok (.iadd, 1) := by decide +kernel
theorem dX7_add_19 : decode cX7_add 19 = .ok (.dup_x1, 1) := by decide +kernel
theorem dX7_add_20 : decode cX7_add 20 = .ok (.putfield 18, 3) := by decide +kernel
theorem dX7_add_23 : decode cX7_add 23 = .ok (.ireturn, 1) := by decide +kernel
theorem dX7_readInto_0 : decode cX7_readInto 0 = .ok (.aload_n 1, 1) := by decide +kernel
theorem dX7_readInto_1 : decode cX7_readInto 1 = .ok (.bipush 10, 2) := by decide +kernel
theorem dX7_readInto_3 : decode cX7_readInto 3 = .ok (.invokevirtual 26, 3) := by decide +kernel
theorem dX7_readInto_6 : decode cX7_readInto 6 = .ok (.aload_n 0, 1) := by decide +kernel
theorem dX7_readInto_7 : decode cX7_readInto 7 = .ok (.iconst 0, 1) := by decide +kernel
theorem dX7_readInto_8 : decode cX7_readInto 8 = .ok (.putfield 32, 3) := by decide +kernel
theorem dX7_readInto_11 : decode cX7_readInto 11 = .ok (.iconst 0, 1) := by decide +kernel
theorem dX7_readInto_12 : decode cX7_readInto 12 = .ok (.istore_n 2, 1) := by decide +kernel
theorem dX7_readInto_13 : decode cX7_readInto 13 = .ok (.iload_n 2, 1) := by decide +kernel
theorem dX7_readInto_14 : decode cX7_readInto 14 = .ok (.aload_n 0, 1) := by decide +kernel
theorem dX7_readInto_15 : decode cX7_readInto 15 = .ok (.getfield 18, 3) := by decide +kernel
theorem dX7_readInto_18 : decode cX7_readInto 18 = .ok (.if_icmp .gt 46, 3) := by decide +kernel
theorem dX7_readInto_21 : decode cX7_readInto 21 = .ok (.aload_n 0, 1) := by decide +kernel
theorem dX7_readInto_22 : decode cX7_readInto 22 = .ok (.invokevirtual 35, 3) := by decide +kernel
theorem dX7_readInto_25 : decode cX7_readInto 25 = .ok (.aload_n 0, 1) := by decide +kernel
theorem dX7_readInto_26 : decode cX7_readInto 26 = .ok (.getfield 38, 3) := by decide +kernel
theorem dX7_readInto_29 : decode cX7_readInto 29 = .ok (.ifCond .ne 9, 3) := by decide +kernel
theorem dX7_readInto_32 : decode cX7_readInto 32 = .ok (.iload_n 2, 1) := by decide +kernel
theorem dX7_readInto_33 : decode cX7_readInto 33 = .ok (.ifCond .le 5, 3) := by decide +kernel
theorem dX7_readInto_36 : decode cX7_readInto 36 = .ok (.iload_n 2, 1) := by decide +kernel
theorem dX7_readInto_37 : decode cX7_readInto 37 = .ok (.ireturn, 1) := by decide +kernel
theorem dX7_readInto_38 : decode cX7_readInto 38 = .ok (.aload_n 0, 1) := by decide +kernel
theorem dX7_readInto_39 : decode cX7_readInto 39 = .ok (.aload_n 1, 1) := by decide +kernel
theorem dX7_readInto_40 : decode cX7_readInto 40 = .ok (.iload_n 2, 1) := by decide +kernel
theorem dX7_readInto_41 : decode cX7_readInto 41 = .ok (.ifCond .ne 7, 3) := by decide +kernel
theorem dX7_readInto_44 : decode cX7_readInto 44 = .ok (.iconst 1, 1) := by decide +kernel
theorem dX7_readInto_45 : decode cX7_readInto 45 = .ok (.goto 4, 3) := by decide +kernel
theorem dX7_readInto_48 : decode cX7_readInto 48 = .ok (.iconst 0, 1) := by decide +kernel
theorem dX7_readInto_49 : decode cX7_readInto 49 = .ok (.invokevirtual 41, 3) := by decide +kernel
theorem dX7_readInto_52 : decode cX7_readInto 52 = .ok (.ifCond .ne 6, 3) := by decide +kernel
theorem dX7_readInto_55 : decode cX7_readInto 55 = .ok (.goto 9, 3) := by decide +kernel
theorem dX7_readInto_58 : decode cX7_readInto 58 = .ok (.iinc 2 1, 3) := by decide +kernel
theorem dX7_readInto_61 : decode cX7_readInto 61 = .ok (.goto (-48), 3) := by decide +kernel
theorem dX7_readInto_64 : decode cX7_readInto 64 = .ok (.bipush (-10), 2) := by decide +kernel
theorem dX7_readInto_66 : decode cX7_readInto 66 = .ok (.aload_n 0, 1) := by decide +kernel
theorem dX7_readInto_67 : decode cX7_readInto 67 = .ok (.getfield 45, 3) := by decide +kernel
theorem dX7_readInto_70 : decode cX7_readInto 70 = .ok (.isub, 1) := by decide +kernel
theorem dX7_readInto_71 : decode cX7_readInto 71 = .ok (.ireturn, 1) := by decide +kernel
theorem dX7_readItem_0 : decode cX7_readItem 0 = .ok (.aload_n 0, 1) := by decide +kernel
theorem dX7_readItem_1 : decode cX7_readItem 1 = .ok (.invokevirtual 48, 3) := by decide +kernel
theorem dX7_readItem_4 : decode cX7_readItem 4 = .ok (.istore_n 3, 1) := by decide +kernel
theorem dX7_readItem_5 : decode cX7_readItem 5 = .ok (.iload_n 3, 1) := by decide +kernel
theorem dX7_readItem_6 : decode cX7_readItem 6 = .ok (.iconst (-1), 1) := by decide +kernel
theorem dX7_readItem_7 : decode cX7_readItem 7 = .ok (.if_icmp .eq 16, 3) := by decide +kernel
theorem dX7_readItem_10 : decode cX7_readItem 10 = .ok (.iload_n 3, 1) := by decide +kernel
theorem dX7_readItem_11 : decode cX7_readItem 11 = .ok (.ifCond .ne 7, 3) := by decide +kernel
theorem dX7_readItem_14 : decode cX7_readItem 14 = .ok (.iconst 1, 1) := by decide +kernel
theorem dX7_readItem_15 : decode cX7_readItem 15 = .ok (.goto 4, 3) := by decide +kernel
theorem dX7_readItem_18 : decode cX7_readItem 18 = .ok (.iconst 0, 1) := by decide +kernel
theorem dX7_readItem_19 : decode cX7_readItem 19 = .ok (.iload_n 2, 1) := by decide +kernel
theorem dX7_readItem_20 : decode cX7_readItem 20 = .ok (.if_icmp .eq 5, 3) := by decide +kernel
theorem dX7_readItem_23 : decode cX7_readItem 23 = .ok (.iconst 0, 1) := by decide +kernel
theorem dX7_readItem_24 : decode cX7_readItem 24 = .ok (.ireturn, 1) := by decide +kernel
theorem dX7_readItem_25 : decode cX7_readItem 25 = .ok (.iload_n 3, 1) := by decide +kernel
theorem dX7_readItem_26 : decode cX7_readItem 26 = .ok (.iconst 2, 1) := by decide +kernel
theorem dX7_readItem_27 : decode cX7_readItem 27 = .ok (.if_icmp .ne 17, 3) := by decide +kernel
theorem dX7_readItem_30 : decode cX7_readItem 30 = .ok (.aload_n 1, 1) := by decide +kernel
theorem dX7_readItem_31 : decode cX7_readItem 31 = .ok (.getfield 52, 3) := by decide +kernel
theorem dX7_readItem_34 : decode cX7_readItem 34 = .ok (.getfield 56, 3) := by decide +kernel
theorem dX7_readItem_37 : decode cX7_readItem 37 = .ok (.bipush 6, 2) := by decide +kernel
theorem dX7_readItem_39 : decode cX7_readItem 39 = .ok (.if_icmp .lt 5, 3) := by decide +kernel
theorem dX7_readItem_42 : decode cX7_readItem 42 = .ok (.iconst 0, 1) := by decide +kernel
theorem dX7_readItem_43 : decode cX7_readItem 43 = .ok (.ireturn, 1) := by decide +kernel
theorem dX7_readItem_44 : decode cX7_readItem 44 = .ok (.iload_n 3, 1) := by decide +kernel
theorem dX7_readItem_45 : decode cX7_readItem 45 = .ok (.iconst 4, 1) := by decide +kernel
theorem dX7_readItem_46 : decode cX7_readItem 46 = .ok (.if_icmp .ne 17, 3) := by decide +kernel
theorem dX7_readItem_49 : decode cX7_readItem 49 = .ok (.aload_n 1, 1) := by decide +kernel
theorem dX7_readItem_50 : decode cX7_readItem 50 = .ok (.getfield 59, 3) := by decide +kernel
theorem dX7_readItem_53 : decode cX7_readItem 53 = .ok (.getfield 63, 3) := by decide +kernel
theorem dX7_readItem_56 : decode cX7_readItem 56 = .ok (.bipush 8, 2) := by decide +kernel
theorem dX7_readItem_58 : decode cX7_readItem 58 = .ok (.if_icmp .lt 5, 3) := by decide +kernel
theorem dX7_readItem_61 : decode cX7_readItem 61 = .ok (.iconst 0, 1) := by decide +kernel
theorem dX7_readItem_62 : decode cX7_readItem 62 = .ok (.ireturn, 1) := by decide +kernel
theorem dX7_readItem_63 : decode cX7_readItem 63 = .ok (.iconst 0, 1) := by decide +kernel
theorem dX7_readItem_64 : decode cX7_readItem 64 = .ok (.istore 4, 2) := by decide +kernel
theorem dX7_readItem_66 : decode cX7_readItem 66 = .ok (.iload 4, 2) := by decide +kernel
theorem dX7_readItem_68 : decode cX7_readItem 68 = .ok (.getstatic 68, 3) := by decide +kernel
theorem dX7_readItem_71 : decode cX7_readItem 71 = .ok (.iload_n 3, 1) := by decide +kernel
theorem dX7_readItem_72 : decode cX7_readItem 72 = .ok (.invokestatic 71, 3) := by decide +kernel
theorem dX7_readItem_75 : decode cX7_readItem 75 = .ok (.if_icmp .ge 53, 3) := by decide +kernel
theorem dX7_readItem_78 : decode cX7_readItem 78 = .ok (.aload_n 0, 1) := by decide +kernel
theorem dX7_readItem_79 : decode cX7_readItem 79 = .ok (.invokevirtual 35, 3) := by decide +kernel
theorem dX7_readItem_82 : decode cX7_readItem 82 = .ok (.aload_n 0, 1) := by decide +kernel
theorem dX7_readItem_83 : decode cX7_readItem 83 = .ok (.getfield 38, 3) := by decide +kernel
theorem dX7_readItem_86 : decode cX7_readItem 86 = .ok (.iconst 3, 1) := by decide +kernel
theorem dX7_readItem_87 : decode cX7_readItem 87 = .ok (.if_icmp .ne 20, 3) := by decide +kernel
theorem dX7_readItem_90 : decode cX7_readItem 90 = .ok (.aload_n 0, 1) := by decide +kernel
theorem dX7_readItem_91 : decode cX7_readItem 91 = .ok (.iload_n 3, 1) := by decide +kernel
theorem dX7_readItem_92 : decode cX7_readItem 92 = .ok (.iload 4, 2) := by decide +kernel
theorem dX7_readItem_94 : decode cX7_readItem 94 = .ok (.aload_n 1, 1) := by decide +kernel
theorem dX7_readItem_95 : decode cX7_readItem 95 = .ok (.getfield 52, 3) := by decide +kernel
theorem dX7_readItem_98 : decode cX7_readItem 98 = .ok (.getfield 56, 3) := by decide +kernel
theorem dX7_readItem_101 : decode cX7_readItem 101 = .ok (.invokevirtual 75, 3) := by decide +kernel
theorem dX7_readItem_104 : decode cX7_readItem 104 = .ok (.ifCond .ne 5, 3) := by decide +kernel
theorem dX7_readItem_107 : decode cX7_readItem 107 = .ok (.iconst 0, 1) := by decide +kernel
theorem dX7_readItem_108 : decode cX7_readItem 108 = .ok (.ireturn, 1) := by decide +kernel
theorem dX7_readItem_109 : decode cX7_readItem 109 = .ok (.aload_n 0, 1) := by decide +kernel
theorem dX7_readItem_110 : decode cX7_readItem 110 = .ok (.getfield 15, 3) := by decide +kernel
theorem dX7_readItem_113 : decode cX7_readItem 113 = .ok (.iload 4, 2) := by decide +kernel
theorem dX7_readItem_115 : decode cX7_readItem 115 = .ok (.aload_n 0, 1) := by decide +kernel
theorem dX7_readItem_116 : decode cX7_readItem 116 = .ok (.getfield 79, 3) := by decide +kernel
theorem dX7_readItem_119 : decode cX7_readItem 119 = .ok (.invokestatic 22, 3) := by decide +kernel
theorem dX7_readItem_122 : decode cX7_readItem 122 = .ok (.iinc 4 1, 3) := by decide +kernel
theorem dX7_readItem_125 : decode cX7_readItem 125 = .ok (.goto (-59), 3) := by decide +kernel
theorem dX7_readItem_128 : decode cX7_readItem 128 = .ok (.aload_n 0, 1) := by decide +kernel
theorem dX7_readItem_129 : decode cX7_readItem 129 = .ok (.invokevirtual 35, 3) := by decide +kernel
theorem dX7_readItem_132 : decode cX7_readItem 132 = .ok (.aload_n 0, 1) := by decide +kernel
theorem dX7_readItem_133 : decode cX7_readItem 133 = .ok (.getfield 38, 3) := by decide +kernel
theorem dX7_readItem_136 : decode cX7_readItem 136 = .ok (.iconst 1, 1) := by decide +kernel
theorem dX7_readItem_137 : decode cX7_readItem 137 = .ok (.if_icmp .eq 5, 3) := by decide +kernel
theorem dX7_readItem_140 : decode cX7_readItem 140 = .ok (.iconst 0, 1) := by decide +kernel
theorem dX7_readItem_141 : decode cX7_readItem 141 = .ok (.ireturn, 1) := by decide +kernel
theorem dX7_readItem_142 : decode cX7_readItem 142 = .ok (.aload_n 0, 1) := by decide +kernel
theorem dX7_readItem_143 : decode cX7_readItem 143 = .ok (.aload_n 1, 1) := by decide +kernel
theorem dX7_readItem_144 : decode cX7_readItem 144 = .ok (.iload_n 3, 1) := by decide +kernel
theorem dX7_readItem_145 : decode cX7_readItem 145 = .ok (.invokevirtual 82, 3) := by decide +kernel
theorem dX7_readItem_148 : decode cX7_readItem 148 = .ok (.iconst 1, 1) := by decide +kernel
theorem dX7_readItem_149 : decode cX7_readItem 149 = .ok (.ireturn, 1) := by decide +kernel
theorem dX7_itemTold_0 : decode cX7_itemTold 0 = .ok (.aload_n 0, 1) := by decide +kernel
theorem dX7_itemTold_1 : decode cX7_itemTold 1 = .ok (.getfield 38, 3) := by decide +kernel
theorem dX7_itemTold_4 : decode cX7_itemTold 4 = .ok (.iconst 2, 1) := by decide +kernel
theorem dX7_itemTold_5 : decode cX7_itemTold 5 = .ok (.if_icmp .eq 5, 3) := by decide +kernel
theorem dX7_itemTold_8 : decode cX7_itemTold 8 = .ok (.iconst (-1), 1) := by decide +kernel
theorem dX7_itemTold_9 : decode cX7_itemTold 9 = .ok (.ireturn, 1) := by decide +kernel
theorem dX7_itemTold_10 : decode cX7_itemTold 10 = .ok (.aload_n 0, 1) := by decide +kernel
theorem dX7_itemTold_11 : decode cX7_itemTold 11 = .ok (.ldc 86, 2) := by decide +kernel
theorem dX7_itemTold_13 : decode cX7_itemTold 13 = .ok (.invokevirtual 88, 3) := by decide +kernel
theorem dX7_itemTold_16 : decode cX7_itemTold 16 = .ok (.ifCond .eq 5, 3) := by decide +kernel
theorem dX7_itemTold_19 : decode cX7_itemTold 19 = .ok (.iconst 0, 1) := by decide +kernel
theorem dX7_itemTold_20 : decode cX7_itemTold 20 = .ok (.ireturn, 1) := by decide +kernel
theorem dX7_itemTold_21 : decode cX7_itemTold 21 = .ok (.aload_n 0, 1) := by decide +kernel
theorem dX7_itemTold_22 : decode cX7_itemTold 22 = .ok (.ldc 92, 2) := by decide +kernel
theorem dX7_itemTold_24 : decode cX7_itemTold 24 = .ok (.invokevirtual 88, 3) := by decide +kernel
theorem dX7_itemTold_27 : decode cX7_itemTold 27 = .ok (.ifCond .eq 5, 3) := by decide +kernel
theorem dX7_itemTold_30 : decode cX7_itemTold 30 = .ok (.iconst 1, 1) := by decide +kernel
theorem dX7_itemTold_31 : decode cX7_itemTold 31 = .ok (.ireturn, 1) := by decide +kernel
theorem dX7_itemTold_32 : decode cX7_itemTold 32 = .ok (.aload_n 0, 1) := by decide +kernel
theorem dX7_itemTold_33 : decode cX7_itemTold 33 = .ok (.ldc 94, 2) := by decide +kernel
theorem dX7_itemTold_35 : decode cX7_itemTold 35 = .ok (.invokevirtual 88, 3) := by decide +kernel
theorem dX7_itemTold_38 : decode cX7_itemTold 38 = .ok (.ifCond .eq 5, 3) := by decide +kernel
theorem dX7_itemTold_41 : decode cX7_itemTold 41 = .ok (.iconst 2, 1) := by decide +kernel
theorem dX7_itemTold_42 : decode cX7_itemTold 42 = .ok (.ireturn, 1) := by decide +kernel
theorem dX7_itemTold_43 : decode cX7_itemTold 43 = .ok (.aload_n 0, 1) := by decide +kernel
theorem dX7_itemTold_44 : decode cX7_itemTold 44 = .ok (.ldc 96, 2) := by decide +kernel
theorem dX7_itemTold_46 : decode cX7_itemTold 46 = .ok (.invokevirtual 88, 3) := by decide +kernel
theorem dX7_itemTold_49 : decode cX7_itemTold 49 = .ok (.ifCond .eq 5, 3) := by decide +kernel
theorem dX7_itemTold_52 : decode cX7_itemTold 52 = .ok (.iconst 3, 1) := by decide +kernel
theorem dX7_itemTold_53 : decode cX7_itemTold 53 = .ok (.ireturn, 1) := by decide +kernel
theorem dX7_itemTold_54 : decode cX7_itemTold 54 = .ok (.aload_n 0, 1) := by decide +kernel
theorem dX7_itemTold_55 : decode cX7_itemTold 55 = .ok (.ldc 98, 2) := by decide +kernel
theorem dX7_itemTold_57 : decode cX7_itemTold 57 = .ok (.invokevirtual 88, 3) := by decide +kernel
theorem dX7_itemTold_60 : decode cX7_itemTold 60 = .ok (.ifCond .eq 5, 3) := by decide +kernel
theorem dX7_itemTold_63 : decode cX7_itemTold 63 = .ok (.iconst 4, 1) := by decide +kernel
theorem dX7_itemTold_64 : decode cX7_itemTold 64 = .ok (.ireturn, 1) := by decide +kernel
theorem dX7_itemTold_65 : decode cX7_itemTold 65 = .ok (.iconst (-1), 1) := by decide +kernel
theorem dX7_itemTold_66 : decode cX7_itemTold 66 = .ok (.ireturn, 1) := by decide +kernel
theorem dX7_spells_0 : decode cX7_spells 0 = .ok (.aload_n 0, 1) := by decide +kernel
theorem dX7_spells_1 : decode cX7_spells 1 = .ok (.getfield 32, 3) := by decide +kernel
theorem dX7_spells_4 : decode cX7_spells 4 = .ok (.aload_n 0, 1) := by decide +kernel
theorem dX7_spells_5 : decode cX7_spells 5 = .ok (.getfield 45, 3) := by decide +kernel
theorem dX7_spells_8 : decode cX7_spells 8 = .ok (.isub, 1) := by decide +kernel
theorem dX7_spells_9 : decode cX7_spells 9 = .ok (.aload_n 1, 1) := by decide +kernel
theorem dX7_spells_10 : decode cX7_spells 10 = .ok (.invokevirtual 100, 3) := by decide +kernel
theorem dX7_spells_13 : decode cX7_spells 13 = .ok (.if_icmp .eq 5, 3) := by decide +kernel
theorem dX7_spells_16 : decode cX7_spells 16 = .ok (.iconst 0, 1) := by decide +kernel
theorem dX7_spells_17 : decode cX7_spells 17 = .ok (.ireturn, 1) := by decide +kernel
theorem dX7_spells_18 : decode cX7_spells 18 = .ok (.iconst 0, 1) := by decide +kernel
theorem dX7_spells_19 : decode cX7_spells 19 = .ok (.istore_n 2, 1) := by decide +kernel
theorem dX7_spells_20 : decode cX7_spells 20 = .ok (.iload_n 2, 1) := by decide +kernel
theorem dX7_spells_21 : decode cX7_spells 21 = .ok (.aload_n 1, 1) := by decide +kernel
theorem dX7_spells_22 : decode cX7_spells 22 = .ok (.invokevirtual 100, 3) := by decide +kernel
theorem dX7_spells_25 : decode cX7_spells 25 = .ok (.if_icmp .ge 32, 3) := by decide +kernel
theorem dX7_spells_28 : decode cX7_spells 28 = .ok (.aload_n 0, 1) := by decide +kernel
theorem dX7_spells_29 : decode cX7_spells 29 = .ok (.getfield 9, 3) := by decide +kernel
theorem dX7_spells_32 : decode cX7_spells 32 = .ok (.aload_n 0, 1) := by decide +kernel
theorem dX7_spells_33 : decode cX7_spells 33 = .ok (.getfield 45, 3) := by decide +kernel
theorem dX7_spells_36 : decode cX7_spells 36 = .ok (.iload_n 2, 1) := by decide +kernel
theorem dX7_spells_37 : decode cX7_spells 37 = .ok (.iadd, 1) := by decide +kernel
theorem dX7_spells_38 : decode cX7_spells 38 = .ok (.invokestatic 71, 3) := by decide +kernel
theorem dX7_spells_41 : decode cX7_spells 41 = .ok (.aload_n 1, 1) := by decide +kernel
theorem dX7_spells_42 : decode cX7_spells 42 = .ok (.iload_n 2, 1) := by decide +kernel
theorem dX7_spells_43 : decode cX7_spells 43 = .ok (.invokevirtual 105, 3) := by decide +kernel
theorem dX7_spells_46 : decode cX7_spells 46 = .ok (.if_icmp .eq 5, 3) := by decide +kernel
theorem dX7_spells_49 : decode cX7_spells 49 = .ok (.iconst 0, 1) := by decide +kernel
theorem dX7_spells_50 : decode cX7_spells 50 = .ok (.ireturn, 1) := by decide +kernel
theorem dX7_spells_51 : decode cX7_spells 51 = .ok (.iinc 2 1, 3) := by decide +kernel
theorem dX7_spells_54 : decode cX7_spells 54 = .ok (.goto (-34), 3) := by decide +kernel
theorem dX7_spells_57 : decode cX7_spells 57 = .ok (.iconst 1, 1) := by decide +kernel
theorem dX7_spells_58 : decode cX7_spells 58 = .ok (.ireturn, 1) := by decide +kernel
theorem dX7_fits_0 : decode cX7_fits 0 = .ok (.getstatic 109, 3) := by decide +kernel
theorem dX7_fits_3 : decode cX7_fits 3 = .ok (.iconst 3, 1) := by decide +kernel
theorem dX7_fits_4 : decode cX7_fits 4 = .ok (.iload_n 1, 1) := by decide +kernel
theorem dX7_fits_5 : decode cX7_fits 5 = .ok (.imul, 1) := by decide +kernel
theorem dX7_fits_6 : decode cX7_fits 6 = .ok (.iload_n 2, 1) := by decide +kernel
theorem dX7_fits_7 : decode cX7_fits 7 = .ok (.iadd, 1) := by decide +kernel
theorem dX7_fits_8 : decode cX7_fits 8 = .ok (.invokestatic 71, 3) := by decide +kernel
theorem dX7_fits_11 : decode cX7_fits 11 = .ok (.istore 4, 2) := by decide +kernel
theorem dX7_fits_13 : decode cX7_fits 13 = .ok (.iload 4, 2) := by decide +kernel
theorem dX7_fits_15 : decode cX7_fits 15 = .ok (.iconst (-1), 1) := by decide +kernel
theorem dX7_fits_16 : decode cX7_fits 16 = .ok (.if_icmp .ne 8, 3) := by decide +kernel
theorem dX7_fits_19 : decode cX7_fits 19 = .ok (.iload_n 3, 1) := by decide +kernel
theorem dX7_fits_20 : decode cX7_fits 20 = .ok (.iconst 1, 1) := by decide +kernel
theorem dX7_fits_21 : decode cX7_fits 21 = .ok (.isub, 1) := by decide +kernel
theorem dX7_fits_22 : decode cX7_fits 22 = .ok (.istore 4, 2) := by decide +kernel
theorem dX7_fits_24 : decode cX7_fits 24 = .ok (.iload_n 1, 1) := by decide +kernel
theorem dX7_fits_25 : decode cX7_fits 25 = .ok (.iconst 4, 1) := by decide +kernel
theorem dX7_fits_26 : decode cX7_fits 26 = .ok (.if_icmp .ne 25, 3) := by decide +kernel
theorem dX7_fits_29 : decode cX7_fits 29 = .ok (.iload_n 2, 1) := by decide +kernel
theorem dX7_fits_30 : decode cX7_fits 30 = .ok (.iconst 1, 1) := by decide +kernel
theorem dX7_fits_31 : decode cX7_fits 31 = .ok (.if_icmp .ne 20, 3) := by decide +kernel
theorem dX7_fits_34 : decode cX7_fits 34 = .ok (.aload_n 0, 1) := by decide +kernel
theorem dX7_fits_35 : decode cX7_fits 35 = .ok (.getfield 79, 3) := by decide +kernel
theorem dX7_fits_38 : decode cX7_fits 38 = .ok (.aload_n 0, 1) := by decide +kernel
theorem dX7_fits_39 : decode cX7_fits 39 = .ok (.getfield 15, 3) := by decide +kernel
theorem dX7_fits_42 : decode cX7_fits 42 = .ok (.iconst 0, 1) := by decide +kernel
theorem dX7_fits_43 : decode cX7_fits 43 = .ok (.invokestatic 71, 3) := by decide +kernel
theorem dX7_fits_46 : decode cX7_fits 46 = .ok (.if_icmp .ne 5, 3) := by decide +kernel
theorem dX7_fits_49 : decode cX7_fits 49 = .ok (.iconst 0, 1) := by decide +kernel
theorem dX7_fits_50 : decode cX7_fits 50 = .ok (.ireturn, 1) := by decide +kernel
theorem dX7_fits_51 : decode cX7_fits 51 = .ok (.aload_n 0, 1) := by decide +kernel
theorem dX7_fits_52 : decode cX7_fits 52 = .ok (.getfield 79, 3) := by decide +kernel
theorem dX7_fits_55 : decode cX7_fits 55 = .ok (.getstatic 112, 3) := by decide +kernel
theorem dX7_fits_58 : decode cX7_fits 58 = .ok (.iconst 3, 1) := by decide +kernel
theorem dX7_fits_59 : decode cX7_fits 59 = .ok (.iload_n 1, 1) := by decide +kernel
theorem dX7_fits_60 : decode cX7_fits 60 = .ok (.imul, 1) := by decide +kernel
theorem dX7_fits_61 : decode cX7_fits 61 = .ok (.iload_n 2, 1) := by decide +kernel
theorem dX7_fits_62 : decode cX7_fits 62 = .ok (.iadd, 1) := by decide +kernel
theorem dX7_fits_63 : decode cX7_fits 63 = .ok (.invokestatic 71, 3) := by decide +kernel
theorem dX7_fits_66 : decode cX7_fits 66 = .ok (.iload 4, 2) := by decide +kernel
theorem dX7_fits_68 : decode cX7_fits 68 = .ok (.invokestatic 115, 3) := by decide +kernel
theorem dX7_fits_71 : decode cX7_fits 71 = .ok (.ireturn, 1) := by decide +kernel
theorem dX7_addTo_0 : decode cX7_addTo 0 = .ok (.aload_n 0, 1) := by decide +kernel
theorem dX7_addTo_1 : decode cX7_addTo 1 = .ok (.getfield 15, 3) := by decide +kernel
theorem dX7_addTo_4 : decode cX7_addTo 4 = .ok (.iconst 0, 1) := by decide +kernel
theorem dX7_addTo_5 : decode cX7_addTo 5 = .ok (.invokestatic 71, 3) := by decide +kernel
theorem dX7_addTo_8 : decode cX7_addTo 8 = .ok (.istore_n 3, 1) := by decide +kernel
theorem dX7_addTo_9 : decode cX7_addTo 9 = .ok (.aload_n 0, 1) := by decide +kernel
theorem dX7_addTo_10 : decode cX7_addTo 10 = .ok (.getfield 15, 3) := by decide +kernel
theorem dX7_addTo_13 : decode cX7_addTo 13 = .ok (.iconst 1, 1) := by decide +kernel
theorem dX7_addTo_14 : decode cX7_addTo 14 = .ok (.invokestatic 71, 3) := by decide +kernel
theorem dX7_addTo_17 : decode cX7_addTo 17 = .ok (.istore 4, 2) := by decide +kernel
theorem dX7_addTo_19 : decode cX7_addTo 19 = .ok (.aload_n 0, 1) := by decide +kernel
theorem dX7_addTo_20 : decode cX7_addTo 20 = .ok (.getfield 15, 3) := by decide +kernel
theorem dX7_addTo_23 : decode cX7_addTo 23 = .ok (.iconst 2, 1) := by decide +kernel
theorem dX7_addTo_24 : decode cX7_addTo 24 = .ok (.invokestatic 71, 3) := by decide +kernel
theorem dX7_addTo_27 : decode cX7_addTo 27 = .ok (.istore 5, 2) := by decide +kernel
theorem dX7_addTo_29 : decode cX7_addTo 29 = .ok (.iload_n 2, 1) := by decide +kernel
theorem dX7_addTo_30 : decode cX7_addTo 30 = .ok (.tableswitch 106 0 4 #[34, 45, 58, 74, 90], 34) := by decide +kernel
theorem dX7_addTo_64 : decode cX7_addTo 64 = .ok (.aload_n 1, 1) := by decide +kernel
theorem dX7_addTo_65 : decode cX7_addTo 65 = .ok (.getfield 52, 3) := by decide +kernel
theorem dX7_addTo_68 : decode cX7_addTo 68 = .ok (.iload_n 3, 1) := by decide +kernel
theorem dX7_addTo_69 : decode cX7_addTo 69 = .ok (.invokevirtual 118, 3) := by decide +kernel
theorem dX7_addTo_72 : decode cX7_addTo 72 = .ok (.goto 64, 3) := by decide +kernel
theorem dX7_addTo_75 : decode cX7_addTo 75 = .ok (.aload_n 1, 1) := by decide +kernel
theorem dX7_addTo_76 : decode cX7_addTo 76 = .ok (.getfield 52, 3) := by decide +kernel
theorem dX7_addTo_79 : decode cX7_addTo 79 = .ok (.iload_n 3, 1) := by decide +kernel
theorem dX7_addTo_80 : decode cX7_addTo 80 = .ok (.iload 4, 2) := by decide +kernel
theorem dX7_addTo_82 : decode cX7_addTo 82 = .ok (.invokevirtual 119, 3) := by decide +kernel
theorem dX7_addTo_85 : decode cX7_addTo 85 = .ok (.goto 51, 3) := by decide +kernel
theorem dX7_addTo_88 : decode cX7_addTo 88 = .ok (.aload_n 1, 1) := by decide +kernel
theorem dX7_addTo_89 : decode cX7_addTo 89 = .ok (.getfield 52, 3) := by decide +kernel
theorem dX7_addTo_92 : decode cX7_addTo 92 = .ok (.iload_n 3, 1) := by decide +kernel
theorem dX7_addTo_93 : decode cX7_addTo 93 = .ok (.iload 4, 2) := by decide +kernel
theorem dX7_addTo_95 : decode cX7_addTo 95 = .ok (.iload 5, 2) := by decide +kernel
theorem dX7_addTo_97 : decode cX7_addTo 97 = .ok (.invokevirtual 123, 3) := by decide +kernel
theorem dX7_addTo_100 : decode cX7_addTo 100 = .ok (.pop, 1) := by decide +kernel
theorem dX7_addTo_101 : decode cX7_addTo 101 = .ok (.goto 35, 3) := by decide +kernel
theorem dX7_addTo_104 : decode cX7_addTo 104 = .ok (.aload_n 1, 1) := by decide +kernel
theorem dX7_addTo_105 : decode cX7_addTo 105 = .ok (.getfield 52, 3) := by decide +kernel
theorem dX7_addTo_108 : decode cX7_addTo 108 = .ok (.iload_n 3, 1) := by decide +kernel
theorem dX7_addTo_109 : decode cX7_addTo 109 = .ok (.invokevirtual 127, 3) := by decide +kernel
theorem dX7_addTo_112 : decode cX7_addTo 112 = .ok (.iload 4, 2) := by decide +kernel
theorem dX7_addTo_114 : decode cX7_addTo 114 = .ok (.putfield 131, 3) := by decide +kernel
theorem dX7_addTo_117 : decode cX7_addTo 117 = .ok (.goto 19, 3) := by decide +kernel
theorem dX7_addTo_120 : decode cX7_addTo 120 = .ok (.aload_n 1, 1) := by decide +kernel
theorem dX7_addTo_121 : decode cX7_addTo 121 = .ok (.getfield 59, 3) := by decide +kernel
theorem dX7_addTo_124 : decode cX7_addTo 124 = .ok (.iload_n 3, 1) := by decide +kernel
theorem dX7_addTo_125 : decode cX7_addTo 125 = .ok (.iload 4, 2) := by decide +kernel
theorem dX7_addTo_127 : decode cX7_addTo 127 = .ok (.iload 5, 2) := by decide +kernel
theorem dX7_addTo_129 : decode cX7_addTo 129 = .ok (.invokevirtual 135, 3) := by decide +kernel
theorem dX7_addTo_132 : decode cX7_addTo 132 = .ok (.pop, 1) := by decide +kernel
theorem dX7_addTo_133 : decode cX7_addTo 133 = .ok (.goto 3, 3) := by decide +kernel
theorem dX7_addTo_136 : decode cX7_addTo 136 = .ok (.return_, 1) := by decide +kernel
theorem dX7_advance_0 : decode cX7_advance 0 = .ok (.aload_n 0, 1) := by decide +kernel
theorem dX7_advance_1 : decode cX7_advance 1 = .ok (.getfield 32, 3) := by decide +kernel
theorem dX7_advance_4 : decode cX7_advance 4 = .ok (.istore_n 1, 1) := by decide +kernel
theorem dX7_advance_5 : decode cX7_advance 5 = .ok (.iload_n 1, 1) := by decide +kernel
theorem dX7_advance_6 : decode cX7_advance 6 = .ok (.aload_n 0, 1) := by decide +kernel
theorem dX7_advance_7 : decode cX7_advance 7 = .ok (.getfield 18, 3) := by decide +kernel
theorem dX7_advance_10 : decode cX7_advance 10 = .ok (.if_icmp .ge 22, 3) := by decide +kernel
theorem dX7_advance_13 : decode cX7_advance 13 = .ok (.aload_n 0, 1) := by decide +kernel
theorem dX7_advance_14 : decode cX7_advance 14 = .ok (.getfield 9, 3) := by decide +kernel
theorem dX7_advance_17 : decode cX7_advance 17 = .ok (.iload_n 1, 1) := by decide +kernel
theorem dX7_advance_18 : decode cX7_advance 18 = .ok (.invokestatic 71, 3) := by decide +kernel
theorem dX7_advance_21 : decode cX7_advance 21 = .ok (.bipush 32, 2) := by decide +kernel
theorem dX7_advance_23 : decode cX7_advance 23 = .ok (.if_icmp .ne 9, 3) := by decide +kernel
theorem dX7_advance_26 : decode cX7_advance 26 = .ok (.iinc 1 1, 3) := by decide +kernel
theorem dX7_advance_29 : decode cX7_advance 29 = .ok (.goto (-24), 3) := by decide +kernel
theorem dX7_advance_32 : decode cX7_advance 32 = .ok (.aload_n 0, 1) := by decide +kernel
theorem dX7_advance_33 : decode cX7_advance 33 = .ok (.iload_n 1, 1) := by decide +kernel
theorem dX7_advance_34 : decode cX7_advance 34 = .ok (.putfield 45, 3) := by decide +kernel
theorem dX7_advance_37 : decode cX7_advance 37 = .ok (.aload_n 0, 1) := by decide +kernel
theorem dX7_advance_38 : decode cX7_advance 38 = .ok (.iload_n 1, 1) := by decide +kernel
theorem dX7_advance_39 : decode cX7_advance 39 = .ok (.iconst 1, 1) := by decide +kernel
theorem dX7_advance_40 : decode cX7_advance 40 = .ok (.iadd, 1) := by decide +kernel
theorem dX7_advance_41 : decode cX7_advance 41 = .ok (.putfield 32, 3) := by decide +kernel
theorem dX7_advance_44 : decode cX7_advance 44 = .ok (.iload_n 1, 1) := by decide +kernel
theorem dX7_advance_45 : decode cX7_advance 45 = .ok (.aload_n 0, 1) := by decide +kernel
theorem dX7_advance_46 : decode cX7_advance 46 = .ok (.getfield 18, 3) := by decide +kernel
theorem dX7_advance_49 : decode cX7_advance 49 = .ok (.if_icmp .lt 19, 3) := by decide +kernel
theorem dX7_advance_52 : decode cX7_advance 52 = .ok (.aload_n 0, 1) := by decide +kernel
theorem dX7_advance_53 : decode cX7_advance 53 = .ok (.iconst 0, 1) := by decide +kernel
theorem dX7_advance_54 : decode cX7_advance 54 = .ok (.putfield 38, 3) := by decide +kernel
theorem dX7_advance_57 : decode cX7_advance 57 = .ok (.aload_n 0, 1) := by decide +kernel
theorem dX7_advance_58 : decode cX7_advance 58 = .ok (.aload_n 0, 1) := by decide +kernel
theorem dX7_advance_59 : decode cX7_advance 59 = .ok (.getfield 18, 3) := by decide +kernel
theorem dX7_advance_62 : decode cX7_advance 62 = .ok (.putfield 32, 3) := by decide +kernel
theorem dX7_advance_65 : decode cX7_advance 65 = .ok (.goto 92, 3) := by decide +kernel
theorem dX7_advance_68 : decode cX7_advance 68 = .ok (.aload_n 0, 1) := by decide +kernel
theorem dX7_advance_69 : decode cX7_advance 69 = .ok (.getfield 9, 3) := by decide +kernel
theorem dX7_advance_72 : decode cX7_advance 72 = .ok (.iload_n 1, 1) := by decide +kernel
theorem dX7_advance_73 : decode cX7_advance 73 = .ok (.invokestatic 71, 3) := by decide +kernel
theorem dX7_advance_76 : decode cX7_advance 76 = .ok (.bipush 59, 2) := by decide +kernel
theorem dX7_advance_78 : decode cX7_advance 78 = .ok (.if_icmp .ne 11, 3) := by decide +kernel
theorem dX7_advance_81 : decode cX7_advance 81 = .ok (.aload_n 0, 1) := by decide +kernel
theorem dX7_advance_82 : decode cX7_advance 82 = .ok (.iconst 1, 1) := by decide +kernel
theorem dX7_advance_83 : decode cX7_advance 83 = .ok (.putfield 38, 3) := by decide +kernel
theorem dX7_advance_86 : decode cX7_advance 86 = .ok (.goto 71, 3) := by decide +kernel
theorem dX7_advance_89 : decode cX7_advance 89 = .ok (.aload_n 0, 1) := by decide +kernel
theorem dX7_advance_90 : decode cX7_advance 90 = .ok (.iload_n 1, 1) := by decide +kernel
theorem dX7_advance_91 : decode cX7_advance 91 = .ok (.invokevirtual 138, 3) := by decide +kernel
theorem dX7_advance_94 : decode cX7_advance 94 = .ok (.ifCond .eq 43, 3) := by decide +kernel
theorem dX7_advance_97 : decode cX7_advance 97 = .ok (.aload_n 0, 1) := by decide +kernel
theorem dX7_advance_98 : decode cX7_advance 98 = .ok (.iconst 2, 1) := by decide +kernel
theorem dX7_advance_99 : decode cX7_advance 99 = .ok (.putfield 38, 3) := by decide +kernel
theorem dX7_advance_102 : decode cX7_advance 102 = .ok (.aload_n 0, 1) := by decide +kernel
theorem dX7_advance_103 : decode cX7_advance 103 = .ok (.getfield 32, 3) := by decide +kernel
theorem dX7_advance_106 : decode cX7_advance 106 = .ok (.aload_n 0, 1) := by decide +kernel
theorem dX7_advance_107 : decode cX7_advance 107 = .ok (.getfield 18, 3) := by decide +kernel
theorem dX7_advance_110 : decode cX7_advance 110 = .ok (.if_icmp .ge 47, 3) := by decide +kernel
theorem dX7_advance_113 : decode cX7_advance 113 = .ok (.aload_n 0, 1) := by decide +kernel
theorem dX7_advance_114 : decode cX7_advance 114 = .ok (.aload_n 0, 1) := by decide +kernel
theorem dX7_advance_115 : decode cX7_advance 115 = .ok (.getfield 32, 3) := by decide +kernel
theorem dX7_advance_118 : decode cX7_advance 118 = .ok (.invokevirtual 138, 3) := by decide +kernel
theorem dX7_advance_121 : decode cX7_advance 121 = .ok (.ifCond .eq 36, 3) := by decide +kernel
theorem dX7_advance_124 : decode cX7_advance 124 = .ok (.aload_n 0, 1) := by decide +kernel
theorem dX7_advance_125 : decode cX7_advance 125 = .ok (.dup, 1) := by decide +kernel
theorem dX7_advance_126 : decode cX7_advance 126 = .ok (.getfield 32, 3) := by decide +kernel
theorem dX7_advance_129 : decode cX7_advance 129 = .ok (.iconst 1, 1) := by decide +kernel
theorem dX7_advance_130 : decode cX7_advance 130 = .ok (.iadd, 1) := by decide +kernel
theorem dX7_advance_131 : decode cX7_advance 131 = .ok (.putfield 32, 3) := by decide +kernel
theorem dX7_advance_134 : decode cX7_advance 134 = .ok (.goto (-32), 3) := by decide +kernel
theorem dX7_advance_137 : decode cX7_advance 137 = .ok (.aload_n 0, 1) := by decide +kernel
theorem dX7_advance_138 : decode cX7_advance 138 = .ok (.iload_n 1, 1) := by decide +kernel
theorem dX7_advance_139 : decode cX7_advance 139 = .ok (.invokevirtual 142, 3) := by decide +kernel
theorem dX7_advance_142 : decode cX7_advance 142 = .ok (.ifCond .eq 10, 3) := by decide +kernel
theorem dX7_advance_145 : decode cX7_advance 145 = .ok (.aload_n 0, 1) := by decide +kernel
theorem dX7_advance_146 : decode cX7_advance 146 = .ok (.invokevirtual 145, 3) := by decide +kernel
theorem dX7_advance_149 : decode cX7_advance 149 = .ok (.goto 8, 3) := by decide +kernel
theorem dX7_advance_152 : decode cX7_advance 152 = .ok (.aload_n 0, 1) := by decide +kernel
theorem dX7_advance_153 : decode cX7_advance 153 = .ok (.iconst 4, 1) := by decide +kernel
theorem dX7_advance_154 : decode cX7_advance 154 = .ok (.putfield 38, 3) := by decide +kernel
theorem dX7_advance_157 : decode cX7_advance 157 = .ok (.return_, 1) := by decide +kernel
theorem dX7_advanceNumber_0 : decode cX7_advanceNumber 0 = .ok (.aload_n 0, 1) := by decide +kernel
theorem dX7_advanceNumber_1 : decode cX7_advanceNumber 1 = .ok (.iconst 0, 1) := by decide +kernel
theorem dX7_advanceNumber_2 : decode cX7_advanceNumber 2 = .ok (.putfield 79, 3) := by decide +kernel
theorem dX7_advanceNumber_5 : decode cX7_advanceNumber 5 = .ok (.aload_n 0, 1) := by decide +kernel
theorem dX7_advanceNumber_6 : decode cX7_advanceNumber 6 = .ok (.getfield 45, 3) := by decide +kernel
theorem dX7_advanceNumber_9 : decode cX7_advanceNumber 9 = .ok (.istore_n 1, 1) := by decide +kernel
theorem dX7_advanceNumber_10 : decode cX7_advanceNumber 10 = .ok (.iload_n 1, 1) := by decide +kernel
theorem dX7_advanceNumber_11 : decode cX7_advanceNumber 11 = .ok (.aload_n 0, 1) := by decide +kernel
theorem dX7_advanceNumber_12 : decode cX7_advanceNumber 12 = .ok (.getfield 18, 3) := by decide +kernel
theorem dX7_advanceNumber_15 : decode cX7_advanceNumber 15 = .ok (.if_icmp .ge 40, 3) := by decide +kernel
theorem dX7_advanceNumber_18 : decode cX7_advanceNumber 18 = .ok (.aload_n 0, 1) := by decide +kernel
theorem dX7_advanceNumber_19 : decode cX7_advanceNumber 19 = .ok (.iload_n 1, 1) := by decide +kernel
theorem dX7_advanceNumber_20 : decode cX7_advanceNumber 20 = .ok (.invokevirtual 142, 3) := by decide +kernel
theorem dX7_advanceNumber_23 : decode cX7_advanceNumber 23 = .ok (.ifCond .eq 32, 3) := by decide +kernel
theorem dX7_advanceNumber_26 : decode cX7_advanceNumber 26 = .ok (.aload_n 0, 1) := by decide +kernel
theorem dX7_advanceNumber_27 : decode cX7_advanceNumber 27 = .ok (.bipush 10, 2) := by decide +kernel
theorem dX7_advanceNumber_29 : decode cX7_advanceNumber 29 = .ok (.aload_n 0, 1) := by decide +kernel
theorem dX7_advanceNumber_30 : decode cX7_advanceNumber 30 = .ok (.getfield 79, 3) := by decide +kernel
theorem dX7_advanceNumber_33 : decode cX7_advanceNumber 33 = .ok (.imul, 1) := by decide +kernel
theorem dX7_advanceNumber_34 : decode cX7_advanceNumber 34 = .ok (.aload_n 0, 1) := by decide +kernel
theorem dX7_advanceNumber_35 : decode cX7_advanceNumber 35 = .ok (.getfield 9, 3) := by decide +kernel
theorem dX7_advanceNumber_38 : decode cX7_advanceNumber 38 = .ok (.iload_n 1, 1) := by decide +kernel
theorem dX7_advanceNumber_39 : decode cX7_advanceNumber 39 = .ok (.invokestatic 71, 3) := by decide +kernel
theorem dX7_advanceNumber_42 : decode cX7_advanceNumber 42 = .ok (.iadd, 1) := by decide +kernel
theorem dX7_advanceNumber_43 : decode cX7_advanceNumber 43 = .ok (.bipush 48, 2) := by decide +kernel
theorem dX7_advanceNumber_45 : decode cX7_advanceNumber 45 = .ok (.isub, 1) := by decide +kernel
theorem dX7_advanceNumber_46 : decode cX7_advanceNumber 46 = .ok (.putfield 79, 3) := by decide +kernel
theorem dX7_advanceNumber_49 : decode cX7_advanceNumber 49 = .ok (.iinc 1 1, 3) := by decide +kernel
theorem dX7_advanceNumber_52 : decode cX7_advanceNumber 52 = .ok (.goto (-42), 3) := by decide +kernel
theorem dX7_advanceNumber_55 : decode cX7_advanceNumber 55 = .ok (.aload_n 0, 1) := by decide +kernel
theorem dX7_advanceNumber_56 : decode cX7_advanceNumber 56 = .ok (.iload_n 1, 1) := by decide +kernel
theorem dX7_advanceNumber_57 : decode cX7_advanceNumber 57 = .ok (.putfield 32, 3) := by decide +kernel
theorem dX7_advanceNumber_60 : decode cX7_advanceNumber 60 = .ok (.aload_n 0, 1) := by decide +kernel
theorem dX7_advanceNumber_61 : decode cX7_advanceNumber 61 = .ok (.iload_n 1, 1) := by decide +kernel
theorem dX7_advanceNumber_62 : decode cX7_advanceNumber 62 = .ok (.aload_n 0, 1) := by decide +kernel
theorem dX7_advanceNumber_63 : decode cX7_advanceNumber 63 = .ok (.getfield 45, 3) := by decide +kernel
theorem dX7_advanceNumber_66 : decode cX7_advanceNumber 66 = .ok (.isub, 1) := by decide +kernel
theorem dX7_advanceNumber_67 : decode cX7_advanceNumber 67 = .ok (.iconst 4, 1) := by decide +kernel
theorem dX7_advanceNumber_68 : decode cX7_advanceNumber 68 = .ok (.if_icmp .gt 7, 3) := by decide +kernel
theorem dX7_advanceNumber_71 : decode cX7_advanceNumber 71 = .ok (.iconst 3, 1) := by decide +kernel
theorem dX7_advanceNumber_72 : decode cX7_advanceNumber 72 = .ok (.goto 4, 3) := by decide +kernel
theorem dX7_advanceNumber_75 : decode cX7_advanceNumber 75 = .ok (.iconst 4, 1) := by decide +kernel
theorem dX7_advanceNumber_76 : decode cX7_advanceNumber 76 = .ok (.putfield 38, 3) := by decide +kernel
theorem dX7_advanceNumber_79 : decode cX7_advanceNumber 79 = .ok (.return_, 1) := by decide +kernel
theorem dX7_isLetter_0 : decode cX7_isLetter 0 = .ok (.aload_n 0, 1) := by decide +kernel
theorem dX7_isLetter_1 : decode cX7_isLetter 1 = .ok (.getfield 9, 3) := by decide +kernel
theorem dX7_isLetter_4 : decode cX7_isLetter 4 = .ok (.iload_n 1, 1) := by decide +kernel
theorem dX7_isLetter_5 : decode cX7_isLetter 5 = .ok (.invokestatic 71, 3) := by decide +kernel
theorem dX7_isLetter_8 : decode cX7_isLetter 8 = .ok (.bipush 97, 2) := by decide +kernel
theorem dX7_isLetter_10 : decode cX7_isLetter 10 = .ok (.bipush 122, 2) := by decide +kernel
theorem dX7_isLetter_12 : decode cX7_isLetter 12 = .ok (.invokestatic 115, 3) := by decide +kernel
theorem dX7_isLetter_15 : decode cX7_isLetter 15 = .ok (.ireturn, 1) := by decide +kernel
theorem dX7_isFigure_0 : decode cX7_isFigure 0 = .ok (.aload_n 0, 1) := by decide +kernel
theorem dX7_isFigure_1 : decode cX7_isFigure 1 = .ok (.getfield 9, 3) := by decide +kernel
theorem dX7_isFigure_4 : decode cX7_isFigure 4 = .ok (.iload_n 1, 1) := by decide +kernel
theorem dX7_isFigure_5 : decode cX7_isFigure 5 = .ok (.invokestatic 71, 3) := by decide +kernel
theorem dX7_isFigure_8 : decode cX7_isFigure 8 = .ok (.bipush 48, 2) := by decide +kernel
theorem dX7_isFigure_10 : decode cX7_isFigure 10 = .ok (.bipush 57, 2) := by decide +kernel
theorem dX7_isFigure_12 : decode cX7_isFigure 12 = .ok (.invokestatic 115, 3) := by decide +kernel
theorem dX7_isFigure_15 : decode cX7_isFigure 15 = .ok (.ireturn, 1) := by decide +kernel
theorem dX8_init_0 : decode cX8_init 0 = .ok (.aload_n 0, 1) := by decide +kernel
theorem dX8_init_1 : decode cX8_init 1 = .ok (.invokespecial 1, 3) := by decide +kernel
theorem dX8_init_4 : decode cX8_init 4 = .ok (.return_, 1) := by decide +kernel
theorem dX8_tends_0 : decode cX8_tends 0 = .ok (.aload_n 0, 1) := by decide +kernel
theorem dX8_tends_1 : decode cX8_tends 1 = .ok (.invokespecial 7, 3) := by decide +kernel
theorem dX8_tends_4 : decode cX8_tends 4 = .ok (.iconst 2, 1) := by decide +kernel
theorem dX8_tends_5 : decode cX8_tends 5 = .ok (.idiv, 1) := by decide +kernel
theorem dX8_tends_6 : decode cX8_tends 6 = .ok (.ireturn, 1) := by decide +kernel
theorem dX8_forgets_0 : decode cX8_forgets 0 = .ok (.iconst 0, 1) := by decide +kernel
theorem dX8_forgets_1 : decode cX8_forgets 1 = .ok (.ireturn, 1) := by decide +kernel
theorem dX9_init_0 : decode cX9_init 0 = .ok (.aload_n 0, 1) := by decide +kernel
theorem dX9_init_1 : decode cX9_init 1 = .ok (.invokespecial 1, 3) := by decide +kernel
theorem dX9_init_4 : decode cX9_init 4 = .ok (.return_, 1) := by decide +kernel
theorem dX9_meal_0 : decode cX9_meal 0 = .ok (.aload_n 0, 1) := by decide +kernel
theorem dX9_meal_1 : decode cX9_meal 1 = .ok (.iload_n 1, 1) := by decide +kernel
theorem dX9_meal_2 : decode cX9_meal 2 = .ok (.iload_n 2, 1) := by decide +kernel
theorem dX9_meal_3 : decode cX9_meal 3 = .ok (.invokespecial 7, 3) := by decide +kernel
theorem dX9_meal_6 : decode cX9_meal 6 = .ok (.istore_n 3, 1) := by decide +kernel
theorem dX9_meal_7 : decode cX9_meal 7 = .ok (.iload_n 2, 1) := by decide +kernel
theorem dX9_meal_8 : decode cX9_meal 8 = .ok (.ifCond .eq 7, 3) := by decide +kernel
theorem dX9_meal_11 : decode cX9_meal 11 = .ok (.iload_n 3, 1) := by decide +kernel
theorem dX9_meal_12 : decode cX9_meal 12 = .ok (.goto 8, 3) := by decide +kernel
theorem dX9_meal_15 : decode cX9_meal 15 = .ok (.iload_n 3, 1) := by decide +kernel
theorem dX9_meal_16 : decode cX9_meal 16 = .ok (.iconst 1, 1) := by decide +kernel
theorem dX9_meal_17 : decode cX9_meal 17 = .ok (.iadd, 1) := by decide +kernel
theorem dX9_meal_18 : decode cX9_meal 18 = .ok (.iconst 2, 1) := by decide +kernel
theorem dX9_meal_19 : decode cX9_meal 19 = .ok (.idiv, 1) := by decide +kernel
theorem dX9_meal_20 : decode cX9_meal 20 = .ok (.ireturn, 1) := by decide +kernel
theorem dX9_rests_0 : decode cX9_rests 0 = .ok (.iload_n 1, 1) := by decide +kernel
theorem dX9_rests_1 : decode cX9_rests 1 = .ok (.iconst 2, 1) := by decide +kernel
theorem dX9_rests_2 : decode cX9_rests 2 = .ok (.irem, 1) := by decide +kernel
theorem dX9_rests_3 : decode cX9_rests 3 = .ok (.ifCond .eq 7, 3) := by decide +kernel
theorem dX9_rests_6 : decode cX9_rests 6 = .ok (.iconst 1, 1) := by decide +kernel
theorem dX9_rests_7 : decode cX9_rests 7 = .ok (.goto 4, 3) := by decide +kernel
theorem dX9_rests_10 : decode cX9_rests 10 = .ok (.iconst 0, 1) := by decide +kernel
theorem dX9_rests_11 : decode cX9_rests 11 = .ok (.ireturn, 1) := by decide +kernel
theorem dX10_init_0 : decode cX10_init 0 = .ok (.aload_n 0, 1) := by decide +kernel
theorem dX10_init_1 : decode cX10_init 1 = .ok (.invokespecial 3, 3) := by decide +kernel
theorem dX10_init_4 : decode cX10_init 4 = .ok (.aload_n 0, 1) := by decide +kernel
theorem dX10_init_5 : decode cX10_init 5 = .ok (.bipush 8, 2) := by decide +kernel
theorem dX10_init_7 : decode cX10_init 7 = .ok (.anewarray 9, 3) := by decide +kernel
theorem dX10_init_10 : decode cX10_init 10 = .ok (.putfield 11, 3) := by decide +kernel
theorem dX10_init_13 : decode cX10_init 13 = .ok (.aload_n 0, 1) := by decide +kernel
theorem dX10_init_14 : decode cX10_init 14 = .ok (.iconst 5, 1) := by decide +kernel
theorem dX10_init_15 : decode cX10_init 15 = .ok (.newarray .int, 2) := by decide +kernel
theorem dX10_init_17 : decode cX10_init 17 = .ok (.putfield 17, 3) := by decide +kernel
theorem dX10_init_20 : decode cX10_init 20 = .ok (.aload_n 0, 1) := by decide +kernel
theorem dX10_init_21 : decode cX10_init 21 = .ok (.iconst 5, 1) := by decide +kernel
theorem dX10_init_22 : decode cX10_init 22 = .ok (.newarray .int, 2) := by decide +kernel
theorem dX10_init_24 : decode cX10_init 24 = .ok (.putfield 21, 3) := by decide +kernel
theorem dX10_init_27 : decode cX10_init 27 = .ok (.aload_n 0, 1) := by decide +kernel
theorem dX10_init_28 : decode cX10_init 28 = .ok (.bipush 64, 2) := by decide +kernel
theorem dX10_init_30 : decode cX10_init 30 = .ok (.newarray .int, 2) := by decide +kernel
theorem dX10_init_32 : decode cX10_init 32 = .ok (.putfield 24, 3) := by decide +kernel
theorem dX10_init_35 : decode cX10_init 35 = .ok (.aload_n 0, 1) := by decide +kernel
theorem dX10_init_36 : decode cX10_init 36 = .ok (.bipush 64, 2) := by decide +kernel
theorem dX10_init_38 : decode cX10_init 38 = .ok (.newarray .int, 2) := by decide +kernel
theorem dX10_init_40 : decode cX10_init 40 = .ok (.putfield 27, 3) := by decide +kernel
theorem dX10_init_43 : decode cX10_init 43 = .ok (.aload_n 0, 1) := by decide +kernel
theorem dX10_init_44 : decode cX10_init 44 = .ok (.new 9, 3) := by decide +kernel
theorem dX10_init_47 : decode cX10_init 47 = .ok (.dup, 1) := by decide +kernel
theorem dX10_init_48 : decode cX10_init 48 = .ok (.aload_n 1, 1) := by decide +kernel
theorem dX10_init_49 : decode cX10_init 49 = .ok (.invokespecial 30, 3) := by decide +kernel
theorem dX10_init_52 : decode cX10_init 52 = .ok (.putfield 33, 3) := by decide +kernel
theorem dX10_init_55 : decode cX10_init 55 = .ok (.iconst 0, 1) := by decide +kernel
theorem dX10_init_56 : decode cX10_init 56 = .ok (.istore_n 2, 1) := by decide +kernel
theorem dX10_init_57 : decode cX10_init 57 = .ok (.iload_n 2, 1) := by decide +kernel
theorem dX10_init_58 : decode cX10_init 58 = .ok (.aload_n 0, 1) := by decide +kernel
theorem dX10_init_59 : decode cX10_init 59 = .ok (.getfield 11, 3) := by decide +kernel
theorem dX10_init_62 : decode cX10_init 62 = .ok (.arraylength, 1) := by decide +kernel
theorem dX10_init_63 : decode cX10_init 63 = .ok (.if_icmp .ge 23, 3) := by decide +kernel
theorem dX10_init_66 : decode cX10_init 66 = .ok (.aload_n 0, 1) := by decide +kernel
theorem dX10_init_67 : decode cX10_init 67 = .ok (.getfield 11, 3) := by decide +kernel
theorem dX10_init_70 : decode cX10_init 70 = .ok (.iload_n 2, 1) := by decide +kernel
theorem dX10_init_71 : decode cX10_init 71 = .ok (.new 9, 3) := by decide +kernel
theorem dX10_init_74 : decode cX10_init 74 = .ok (.dup, 1) := by decide +kernel
theorem dX10_init_75 : decode cX10_init 75 = .ok (.aload_n 1, 1) := by decide +kernel
theorem dX10_init_76 : decode cX10_init 76 = .ok (.invokespecial 30, 3) := by decide +kernel
theorem dX10_init_79 : decode cX10_init 79 = .ok (.aastore, 1) := by decide +kernel
theorem dX10_init_80 : decode cX10_init 80 = .ok (.iinc 2 1, 3) := by decide +kernel
theorem dX10_init_83 : decode cX10_init 83 = .ok (.goto (-26), 3) := by decide +kernel
theorem dX10_init_86 : decode cX10_init 86 = .ok (.return_, 1) := by decide +kernel
theorem dX10_bestPlan_0 : decode cX10_bestPlan 0 = .ok (.aload_n 0, 1) := by decide +kernel
theorem dX10_bestPlan_1 : decode cX10_bestPlan 1 = .ok (.iconst (-1), 1) := by decide +kernel
theorem dX10_bestPlan_2 : decode cX10_bestPlan 2 = .ok (.putfield 37, 3) := by decide +kernel
theorem dX10_bestPlan_5 : decode cX10_bestPlan 5 = .ok (.aload_n 0, 1) := by decide +kernel
theorem dX10_bestPlan_6 : decode cX10_bestPlan 6 = .ok (.aload_n 1, 1) := by decide +kernel
theorem dX10_bestPlan_7 : decode cX10_bestPlan 7 = .ok (.iconst 0, 1) := by decide +kernel
theorem dX10_bestPlan_8 : decode cX10_bestPlan 8 = .ok (.iload_n 2, 1) := by decide +kernel
theorem dX10_bestPlan_9 : decode cX10_bestPlan 9 = .ok (.invokestatic 41, 3) := by decide +kernel
theorem dX10_bestPlan_12 : decode cX10_bestPlan 12 = .ok (.aload_n 0, 1) := by decide +kernel
theorem dX10_bestPlan_13 : decode cX10_bestPlan 13 = .ok (.getfield 37, 3) := by decide +kernel
theorem dX10_bestPlan_16 : decode cX10_bestPlan 16 = .ok (.ireturn, 1) := by decide +kernel
theorem dX10_plannedJob_0 : decode cX10_plannedJob 0 = .ok (.aload_n 0, 1) := by decide +kernel
theorem dX10_plannedJob_1 : decode cX10_plannedJob 1 = .ok (.getfield 21, 3) := by decide +kernel
theorem dX10_plannedJob_4 : decode cX10_plannedJob 4 = .ok (.iload_n 1, 1) := by decide +kernel
theorem dX10_plannedJob_5 : decode cX10_plannedJob 5 = .ok (.invokestatic 45, 3) := by decide +kernel
theorem dX10_plannedJob_8 : decode cX10_plannedJob 8 = .ok (.ireturn, 1) := by decide +kernel
theorem dX10_planFrom_0 : decode cX10_planFrom 0 = .ok (.iload_n 2, 1) := by decide +kernel
theorem dX10_planFrom_1 : decode cX10_planFrom 1 = .ok (.iload_n 3, 1) := by decide +kernel
theorem dX10_planFrom_2 : decode cX10_planFrom 2 = .ok (.if_icmp .lt 12, 3) := by decide +kernel
theorem dX10_planFrom_5 : decode cX10_planFrom 5 = .ok (.aload_n 0, 1) := by decide +kernel
theorem dX10_planFrom_6 : decode cX10_planFrom 6 = .ok (.aload_n 1, 1) := by decide +kernel
theorem dX10_planFrom_7 : decode cX10_planFrom 7 = .ok (.getfield 49, 3) := by decide +kernel
theorem dX10_planFrom_10 : decode cX10_planFrom 10 = .ok (.invokevirtual 52, 3) := by decide +kernel
theorem dX10_planFrom_13 : decode cX10_planFrom 13 = .ok (.return_, 1) := by decide +kernel
theorem dX10_planFrom_14 : decode cX10_planFrom 14 = .ok (.aload_n 0, 1) := by decide +kernel
theorem dX10_planFrom_15 : decode cX10_planFrom 15 = .ok (.getfield 11, 3) := by decide +kernel
theorem dX10_planFrom_18 : decode cX10_planFrom 18 = .ok (.iload_n 2, 1) := by decide +kernel
theorem dX10_planFrom_19 : decode cX10_planFrom 19 = .ok (.invokestatic 56, 3) := by decide +kernel
theorem dX10_planFrom_22 : decode cX10_planFrom 22 = .ok (.astore 4, 2) := by decide +kernel
theorem dX10_planFrom_24 : decode cX10_planFrom 24 = .ok (.aload 4, 2) := by decide +kernel
theorem dX10_planFrom_26 : decode cX10_planFrom 26 = .ok (.ifnonnull 4, 3) := by decide +kernel
theorem dX10_planFrom_29 : decode cX10_planFrom 29 = .ok (.return_, 1) := by decide +kernel
theorem dX10_planFrom_30 : decode cX10_planFrom 30 = .ok (.aload_n 1, 1) := by decide +kernel
theorem dX10_planFrom_31 : decode cX10_planFrom 31 = .ok (.aload_n 1, 1) := by decide +kernel
theorem dX10_planFrom_32 : decode cX10_planFrom 32 = .ok (.getfield 60, 3) := by decide +kernel
theorem dX10_planFrom_35 : decode cX10_planFrom 35 = .ok (.invokevirtual 63, 3) := by decide +kernel
theorem dX10_planFrom_38 : decode cX10_planFrom 38 = .ok (.ifCond .ne 10, 3) := by decide +kernel
theorem dX10_planFrom_41 : decode cX10_planFrom 41 = .ok (.iload_n 2, 1) := by decide +kernel
theorem dX10_planFrom_42 : decode cX10_planFrom 42 = .ok (.iload_n 3, 1) := by decide +kernel
theorem dX10_planFrom_43 : decode cX10_planFrom 43 = .ok (.iconst 1, 1) := by decide +kernel
theorem dX10_planFrom_44 : decode cX10_planFrom 44 = .ok (.isub, 1) := by decide +kernel
theorem dX10_planFrom_45 : decode cX10_planFrom 45 = .ok (.if_icmp .ne 7, 3) := by decide +kernel
theorem dX10_planFrom_48 : decode cX10_planFrom 48 = .ok (.iconst 1, 1) := by decide +kernel
theorem dX10_planFrom_49 : decode cX10_planFrom 49 = .ok (.goto 4, 3) := by decide +kernel
theorem dX10_planFrom_52 : decode cX10_planFrom 52 = .ok (.iconst 5, 1) := by decide +kernel
theorem dX10_planFrom_53 : decode cX10_planFrom 53 = .ok (.istore 5, 2) := by decide +kernel
theorem dX10_planFrom_55 : decode cX10_planFrom 55 = .ok (.iconst 0, 1) := by decide +kernel
theorem dX10_planFrom_56 : decode cX10_planFrom 56 = .ok (.istore 6, 2) := by decide +kernel
theorem dX10_planFrom_58 : decode cX10_planFrom 58 = .ok (.iload 6, 2) := by decide +kernel
theorem dX10_planFrom_60 : decode cX10_planFrom 60 = .ok (.iload 5, 2) := by decide +kernel
theorem dX10_planFrom_62 : decode cX10_planFrom 62 = .ok (.if_icmp .ge 51, 3) := by decide +kernel
theorem dX10_planFrom_65 : decode cX10_planFrom 65 = .ok (.aload_n 0, 1) := by decide +kernel
theorem dX10_planFrom_66 : decode cX10_planFrom 66 = .ok (.getfield 17, 3) := by decide +kernel
theorem dX10_planFrom_69 : decode cX10_planFrom 69 = .ok (.iload_n 2, 1) := by decide +kernel
theorem dX10_planFrom_70 : decode cX10_planFrom 70 = .ok (.iload 6, 2) := by decide +kernel
theorem dX10_planFrom_72 : decode cX10_planFrom 72 = .ok (.invokestatic 67, 3) := by decide +kernel
theorem dX10_planFrom_75 : decode cX10_planFrom 75 = .ok (.aload 4, 2) := by decide +kernel
theorem dX10_planFrom_77 : decode cX10_planFrom 77 = .ok (.aload_n 1, 1) := by decide +kernel
theorem dX10_planFrom_78 : decode cX10_planFrom 78 = .ok (.invokevirtual 71, 3) := by decide +kernel
theorem dX10_planFrom_81 : decode cX10_planFrom 81 = .ok (.aload 4, 2) := by decide +kernel
theorem dX10_planFrom_83 : decode cX10_planFrom 83 = .ok (.iload 6, 2) := by decide +kernel
theorem dX10_planFrom_85 : decode cX10_planFrom 85 = .ok (.invokevirtual 75, 3) := by decide +kernel
theorem dX10_planFrom_88 : decode cX10_planFrom 88 = .ok (.aload 4, 2) := by decide +kernel
theorem dX10_planFrom_90 : decode cX10_planFrom 90 = .ok (.iconst 0, 1) := by decide +kernel
theorem dX10_planFrom_91 : decode cX10_planFrom 91 = .ok (.invokevirtual 78, 3) := by decide +kernel
theorem dX10_planFrom_94 : decode cX10_planFrom 94 = .ok (.ifCond .ne 13, 3) := by decide +kernel
theorem dX10_planFrom_97 : decode cX10_planFrom 97 = .ok (.aload_n 0, 1) := by decide +kernel
theorem dX10_planFrom_98 : decode cX10_planFrom 98 = .ok (.aload 4, 2) := by decide +kernel
theorem dX10_planFrom_100 : decode cX10_planFrom 100 = .ok (.iload_n 2, 1) := by decide +kernel
theorem dX10_planFrom_101 : decode cX10_planFrom 101 = .ok (.iconst 1, 1) := by decide +kernel
theorem dX10_planFrom_102 : decode cX10_planFrom 102 = .ok (.iadd, 1) := by decide +kernel
theorem dX10_planFrom_103 : decode cX10_planFrom 103 = .ok (.iload_n 3, 1) := by decide +kernel
theorem dX10_planFrom_104 : decode cX10_planFrom 104 = .ok (.invokestatic 41, 3) := by decide +kernel
theorem dX10_planFrom_107 : decode cX10_planFrom 107 = .ok (.iinc 6 1, 3) := by decide +kernel
theorem dX10_planFrom_110 : decode cX10_planFrom 110 = .ok (.goto (-52), 3) := by decide +kernel
theorem dX10_planFrom_113 : decode cX10_planFrom 113 = .ok (.return_, 1) := by decide +kernel
theorem dX10_keepIfMost_0 : decode cX10_keepIfMost 0 = .ok (.iload_n 1, 1) := by decide +kernel
theorem dX10_keepIfMost_1 : decode cX10_keepIfMost 1 = .ok (.aload_n 0, 1) := by decide +kernel
theorem dX10_keepIfMost_2 : decode cX10_keepIfMost 2 = .ok (.getfield 37, 3) := by decide +kernel
theorem dX10_keepIfMost_5 : decode cX10_keepIfMost 5 = .ok (.if_icmp .gt 4, 3) := by decide +kernel
theorem dX10_keepIfMost_8 : decode cX10_keepIfMost 8 = .ok (.return_, 1) := by decide +kernel
theorem dX10_keepIfMost_9 : decode cX10_keepIfMost 9 = .ok (.aload_n 0, 1) := by decide +kernel
theorem dX10_keepIfMost_10 : decode cX10_keepIfMost 10 = .ok (.iload_n 1, 1) := by decide +kernel
theorem dX10_keepIfMost_11 : decode cX10_keepIfMost 11 = .ok (.putfield 37, 3) := by decide +kernel
theorem dX10_keepIfMost_14 : decode cX10_keepIfMost 14 = .ok (.aload_n 0, 1) := by decide +kernel
theorem dX10_keepIfMost_15 : decode cX10_keepIfMost 15 = .ok (.getfield 17, 3) := by decide +kernel
theorem dX10_keepIfMost_18 : decode cX10_keepIfMost 18 = .ok (.aload_n 0, 1) := by decide +kernel
theorem dX10_keepIfMost_19 : decode cX10_keepIfMost 19 = .ok (.getfield 21, 3) := by decide +kernel
theorem dX10_keepIfMost_22 : decode cX10_keepIfMost 22 = .ok (.invokestatic 82, 3) := by decide +kernel
theorem dX10_keepIfMost_25 : decode cX10_keepIfMost 25 = .ok (.return_, 1) := by decide +kernel
theorem dX10_firstWant_0 : decode cX10_firstWant 0 = .ok (.aload_n 0, 1) := by decide +kernel
theorem dX10_firstWant_1 : decode cX10_firstWant 1 = .ok (.getfield 33, 3) := by decide +kernel
theorem dX10_firstWant_4 : decode cX10_firstWant 4 = .ok (.aload_n 1, 1) := by decide +kernel
theorem dX10_firstWant_5 : decode cX10_firstWant 5 = .ok (.invokevirtual 71, 3) := by decide +kernel
theorem dX10_firstWant_8 : decode cX10_firstWant 8 = .ok (.aload_n 0, 1) := by decide +kernel
theorem dX10_firstWant_9 : decode cX10_firstWant 9 = .ok (.getfield 33, 3) := by decide +kernel
theorem dX10_firstWant_12 : decode cX10_firstWant 12 = .ok (.iload_n 3, 1) := by decide +kernel
theorem dX10_firstWant_13 : decode cX10_firstWant 13 = .ok (.putfield 49, 3) := by decide +kernel
theorem dX10_firstWant_16 : decode cX10_firstWant 16 = .ok (.iconst 0, 1) := by decide +kernel
theorem dX10_firstWant_17 : decode cX10_firstWant 17 = .ok (.istore 4, 2) := by decide +kernel
theorem dX10_firstWant_19 : decode cX10_firstWant 19 = .ok (.iload 4, 2) := by decide +kernel
theorem dX10_firstWant_21 : decode cX10_firstWant 21 = .ok (.iload_n 2, 1) := by decide +kernel
theorem dX10_firstWant_22 : decode cX10_firstWant 22 = .ok (.if_icmp .ge 23, 3) := by decide +kernel
theorem dX10_firstWant_25 : decode cX10_firstWant 25 = .ok (.aload_n 0, 1) := by decide +kernel
theorem dX10_firstWant_26 : decode cX10_firstWant 26 = .ok (.getfield 33, 3) := by decide +kernel
theorem dX10_firstWant_29 : decode cX10_firstWant 29 = .ok (.iconst 0, 1) := by decide +kernel
theorem dX10_firstWant_30 : decode cX10_firstWant 30 = .ok (.invokevirtual 78, 3) := by decide +kernel
theorem dX10_firstWant_33 : decode cX10_firstWant 33 = .ok (.ifCond .le 6, 3) := by decide +kernel
theorem dX10_firstWant_36 : decode cX10_firstWant 36 = .ok (.iload 4, 2) := by decide +kernel
theorem dX10_firstWant_38 : decode cX10_firstWant 38 = .ok (.ireturn, 1) := by decide +kernel
theorem dX10_firstWant_39 : decode cX10_firstWant 39 = .ok (.iinc 4 1, 3) := by decide +kernel
theorem dX10_firstWant_42 : decode cX10_firstWant 42 = .ok (.goto (-23), 3) := by decide +kernel
theorem dX10_firstWant_45 : decode cX10_firstWant 45 = .ok (.iconst (-1), 1) := by decide +kernel
theorem dX10_firstWant_46 : decode cX10_firstWant 46 = .ok (.ireturn, 1) := by decide +kernel
theorem dX10_leastHeld_0 : decode cX10_leastHeld 0 = .ok (.iconst 0, 1) := by decide +kernel
theorem dX10_leastHeld_1 : decode cX10_leastHeld 1 = .ok (.istore_n 3, 1) := by decide +kernel
theorem dX10_leastHeld_2 : decode cX10_leastHeld 2 = .ok (.sipush 1000, 3) := by decide +kernel
theorem dX10_leastHeld_5 : decode cX10_leastHeld 5 = .ok (.istore 4, 2) := by decide +kernel
theorem dX10_leastHeld_7 : decode cX10_leastHeld 7 = .ok (.iconst 0, 1) := by decide +kernel
theorem dX10_leastHeld_8 : decode cX10_leastHeld 8 = .ok (.istore 5, 2) := by decide +kernel
theorem dX10_leastHeld_10 : decode cX10_leastHeld 10 = .ok (.iload 5, 2) := by decide +kernel
theorem dX10_leastHeld_12 : decode cX10_leastHeld 12 = .ok (.bipush 20, 2) := by decide +kernel
theorem dX10_leastHeld_14 : decode cX10_leastHeld 14 = .ok (.if_icmp .ge 47, 3) := by decide +kernel
theorem dX10_leastHeld_17 : decode cX10_leastHeld 17 = .ok (.iload_n 3, 1) := by decide +kernel
theorem dX10_leastHeld_18 : decode cX10_leastHeld 18 = .ok (.iload 4, 2) := by decide +kernel
theorem dX10_leastHeld_20 : decode cX10_leastHeld 20 = .ok (.if_icmp .ge 41, 3) := by decide +kernel
theorem dX10_leastHeld_23 : decode cX10_leastHeld 23 = .ok (.iload_n 3, 1) := by decide +kernel
theorem dX10_leastHeld_24 : decode cX10_leastHeld 24 = .ok (.iload 4, 2) := by decide +kernel
theorem dX10_leastHeld_26 : decode cX10_leastHeld 26 = .ok (.iadd, 1) := by decide +kernel
theorem dX10_leastHeld_27 : decode cX10_leastHeld 27 = .ok (.iconst 2, 1) := by decide +kernel
theorem dX10_leastHeld_28 : decode cX10_leastHeld 28 = .ok (.idiv, 1) := by decide +kernel
theorem dX10_leastHeld_29 : decode cX10_leastHeld 29 = .ok (.istore 6, 2) := by decide +kernel
theorem dX10_leastHeld_31 : decode cX10_leastHeld 31 = .ok (.aload_n 0, 1) := by decide +kernel
theorem dX10_leastHeld_32 : decode cX10_leastHeld 32 = .ok (.aload_n 1, 1) := by decide +kernel
theorem dX10_leastHeld_33 : decode cX10_leastHeld 33 = .ok (.iload_n 2, 1) := by decide +kernel
theorem dX10_leastHeld_34 : decode cX10_leastHeld 34 = .ok (.iload 6, 2) := by decide +kernel
theorem dX10_leastHeld_36 : decode cX10_leastHeld 36 = .ok (.invokevirtual 86, 3) := by decide +kernel
theorem dX10_leastHeld_39 : decode cX10_leastHeld 39 = .ok (.iconst (-1), 1) := by decide +kernel
theorem dX10_leastHeld_40 : decode cX10_leastHeld 40 = .ok (.if_icmp .ne 10, 3) := by decide +kernel
theorem dX10_leastHeld_43 : decode cX10_leastHeld 43 = .ok (.iload 6, 2) := by decide +kernel
theorem dX10_leastHeld_45 : decode cX10_leastHeld 45 = .ok (.istore 4, 2) := by decide +kernel
theorem dX10_leastHeld_47 : decode cX10_leastHeld 47 = .ok (.goto 8, 3) := by decide +kernel
theorem dX10_leastHeld_50 : decode cX10_leastHeld 50 = .ok (.iload 6, 2) := by decide +kernel
theorem dX10_leastHeld_52 : decode cX10_leastHeld 52 = .ok (.iconst 1, 1) := by decide +kernel
theorem dX10_leastHeld_53 : decode cX10_leastHeld 53 = .ok (.iadd, 1) := by decide +kernel
theorem dX10_leastHeld_54 : decode cX10_leastHeld 54 = .ok (.istore_n 3, 1) := by decide +kernel
theorem dX10_leastHeld_55 : decode cX10_leastHeld 55 = .ok (.iinc 5 1, 3) := by decide +kernel
theorem dX10_leastHeld_58 : decode cX10_leastHeld 58 = .ok (.goto (-48), 3) := by decide +kernel
theorem dX10_leastHeld_61 : decode cX10_leastHeld 61 = .ok (.iload_n 3, 1) := by decide +kernel
theorem dX10_leastHeld_62 : decode cX10_leastHeld 62 = .ok (.sipush 999, 3) := by decide +kernel
theorem dX10_leastHeld_65 : decode cX10_leastHeld 65 = .ok (.if_icmp .le 7, 3) := by decide +kernel
theorem dX10_leastHeld_68 : decode cX10_leastHeld 68 = .ok (.iconst (-1), 1) := by decide +kernel
theorem dX10_leastHeld_69 : decode cX10_leastHeld 69 = .ok (.goto 4, 3) := by decide +kernel
theorem dX10_leastHeld_72 : decode cX10_leastHeld 72 = .ok (.iload_n 3, 1) := by decide +kernel
theorem dX10_leastHeld_73 : decode cX10_leastHeld 73 = .ok (.ireturn, 1) := by decide +kernel
theorem dX10_calmWays_0 : decode cX10_calmWays 0 = .ok (.aload_n 0, 1) := by decide +kernel
theorem dX10_calmWays_1 : decode cX10_calmWays 1 = .ok (.getfield 33, 3) := by decide +kernel
theorem dX10_calmWays_4 : decode cX10_calmWays 4 = .ok (.aload_n 1, 1) := by decide +kernel
theorem dX10_calmWays_5 : decode cX10_calmWays 5 = .ok (.invokevirtual 71, 3) := by decide +kernel
theorem dX10_calmWays_8 : decode cX10_calmWays 8 = .ok (.aload_n 0, 1) := by decide +kernel
theorem dX10_calmWays_9 : decode cX10_calmWays 9 = .ok (.getfield 11, 3) := by decide +kernel
theorem dX10_calmWays_12 : decode cX10_calmWays 12 = .ok (.aload_n 0, 1) := by decide +kernel
theorem dX10_calmWays_13 : decode cX10_calmWays 13 = .ok (.getfield 33, 3) := by decide +kernel
theorem dX10_calmWays_16 : decode cX10_calmWays 16 = .ok (.iconst 0, 1) := by decide +kernel
theorem dX10_calmWays_17 : decode cX10_calmWays 17 = .ok (.iload_n 2, 1) := by decide +kernel
theorem dX10_calmWays_18 : decode cX10_calmWays 18 = .ok (.iload_n 3, 1) := by decide +kernel
theorem dX10_calmWays_19 : decode cX10_calmWays 19 = .ok (.invokestatic 90, 3) := by decide +kernel
theorem dX10_calmWays_22 : decode cX10_calmWays 22 = .ok (.lreturn, 1) := by decide +kernel
theorem dX10_calmFrom_0 : decode cX10_calmFrom 0 = .ok (.iload_n 3, 1) := by decide +kernel
theorem dX10_calmFrom_1 : decode cX10_calmFrom 1 = .ok (.istore 5, 2) := by decide +kernel
theorem dX10_calmFrom_3 : decode cX10_calmFrom 3 = .ok (.iconst 0, 1) := by decide +kernel
theorem dX10_calmFrom_4 : decode cX10_calmFrom 4 = .ok (.istore 6, 2) := by decide +kernel
theorem dX10_calmFrom_6 : decode cX10_calmFrom 6 = .ok (.iload 6, 2) := by decide +kernel
theorem dX10_calmFrom_8 : decode cX10_calmFrom 8 = .ok (.iload_n 3, 1) := by decide +kernel
theorem dX10_calmFrom_9 : decode cX10_calmFrom 9 = .ok (.if_icmp .ge 33, 3) := by decide +kernel
theorem dX10_calmFrom_12 : decode cX10_calmFrom 12 = .ok (.aload_n 1, 1) := by decide +kernel
theorem dX10_calmFrom_13 : decode cX10_calmFrom 13 = .ok (.aload_n 1, 1) := by decide +kernel
theorem dX10_calmFrom_14 : decode cX10_calmFrom 14 = .ok (.getfield 60, 3) := by decide +kernel
theorem dX10_calmFrom_17 : decode cX10_calmFrom 17 = .ok (.invokevirtual 63, 3) := by decide +kernel
theorem dX10_calmFrom_20 : decode cX10_calmFrom 20 = .ok (.ifCond .ne 22, 3) := by decide +kernel
theorem dX10_calmFrom_23 : decode cX10_calmFrom 23 = .ok (.aload_n 1, 1) := by decide +kernel
theorem dX10_calmFrom_24 : decode cX10_calmFrom 24 = .ok (.iconst 0, 1) := by decide +kernel
theorem dX10_calmFrom_25 : decode cX10_calmFrom 25 = .ok (.invokevirtual 78, 3) := by decide +kernel
theorem dX10_calmFrom_28 : decode cX10_calmFrom 28 = .ok (.ifCond .le 5, 3) := by decide +kernel
theorem dX10_calmFrom_31 : decode cX10_calmFrom 31 = .ok (.lconst 0, 1) := by decide +kernel
theorem dX10_calmFrom_32 : decode cX10_calmFrom 32 = .ok (.lreturn, 1) := by decide +kernel
theorem dX10_calmFrom_33 : decode cX10_calmFrom 33 = .ok (.iinc 5 (-1), 3) := by decide +kernel
theorem dX10_calmFrom_36 : decode cX10_calmFrom 36 = .ok (.iinc 6 1, 3) := by decide +kernel
theorem dX10_calmFrom_39 : decode cX10_calmFrom 39 = .ok (.goto (-33), 3) := by decide +kernel
theorem dX10_calmFrom_42 : decode cX10_calmFrom 42 = .ok (.iload 5, 2) := by decide +kernel
theorem dX10_calmFrom_44 : decode cX10_calmFrom 44 = .ok (.ifCond .ne 5, 3) := by decide +kernel
theorem dX10_calmFrom_47 : decode cX10_calmFrom 47 = .ok (.lconst 1, 1) := by decide +kernel
theorem dX10_calmFrom_48 : decode cX10_calmFrom 48 = .ok (.lreturn, 1) := by decide +kernel
theorem dX10_calmFrom_49 : decode cX10_calmFrom 49 = .ok (.aload_n 0, 1) := by decide +kernel
theorem dX10_calmFrom_50 : decode cX10_calmFrom 50 = .ok (.iload_n 2, 1) := by decide +kernel
theorem dX10_calmFrom_51 : decode cX10_calmFrom 51 = .ok (.invokestatic 56, 3) := by decide +kernel
theorem dX10_calmFrom_54 : decode cX10_calmFrom 54 = .ok (.astore 6, 2) := by decide +kernel
theorem dX10_calmFrom_56 : decode cX10_calmFrom 56 = .ok (.aload 6, 2) := by decide +kernel
theorem dX10_calmFrom_58 : decode cX10_calmFrom 58 = .ok (.ifnonnull 5, 3) := by decide +kernel
theorem dX10_calmFrom_61 : decode cX10_calmFrom 61 = .ok (.lconst 0, 1) := by decide +kernel
theorem dX10_calmFrom_62 : decode cX10_calmFrom 62 = .ok (.lreturn, 1) := by decide +kernel
theorem dX10_calmFrom_63 : decode cX10_calmFrom 63 = .ok (.lconst 0, 1) := by decide +kernel
theorem dX10_calmFrom_64 : decode cX10_calmFrom 64 = .ok (.lstore 7, 2) := by decide +kernel
theorem dX10_calmFrom_66 : decode cX10_calmFrom 66 = .ok (.aload 6, 2) := by decide +kernel
theorem dX10_calmFrom_68 : decode cX10_calmFrom 68 = .ok (.aload_n 1, 1) := by decide +kernel
theorem dX10_calmFrom_69 : decode cX10_calmFrom 69 = .ok (.invokevirtual 71, 3) := by decide +kernel
theorem dX10_calmFrom_72 : decode cX10_calmFrom 72 = .ok (.aload 6, 2) := by decide +kernel
theorem dX10_calmFrom_74 : decode cX10_calmFrom 74 = .ok (.iconst 1, 1) := by decide +kernel
theorem dX10_calmFrom_75 : decode cX10_calmFrom 75 = .ok (.invokevirtual 78, 3) := by decide +kernel
theorem dX10_calmFrom_78 : decode cX10_calmFrom 78 = .ok (.ifCond .ne 27, 3) := by decide +kernel
theorem dX10_calmFrom_81 : decode cX10_calmFrom 81 = .ok (.lload 7, 2) := by decide +kernel
theorem dX10_calmFrom_83 : decode cX10_calmFrom 83 = .ok (.iload 4, 2) := by decide +kernel
theorem dX10_calmFrom_85 : decode cX10_calmFrom 85 = .ok (.i2l, 1) := by decide +kernel
theorem dX10_calmFrom_86 : decode cX10_calmFrom 86 = .ok (.aload_n 0, 1) := by decide +kernel
theorem dX10_calmFrom_87 : decode cX10_calmFrom 87 = .ok (.aload 6, 2) := by decide +kernel
theorem dX10_calmFrom_89 : decode cX10_calmFrom 89 = .ok (.iload_n 2, 1) := by decide +kernel
theorem dX10_calmFrom_90 : decode cX10_calmFrom 90 = .ok (.iconst 1, 1) := by decide +kernel
theorem dX10_calmFrom_91 : decode cX10_calmFrom 91 = .ok (.iadd, 1) := by decide +kernel
theorem dX10_calmFrom_92 : decode cX10_calmFrom 92 = .ok (.iload 5, 2) := by decide +kernel
theorem dX10_calmFrom_94 : decode cX10_calmFrom 94 = .ok (.iconst 1, 1) := by decide +kernel
theorem dX10_calmFrom_95 : decode cX10_calmFrom 95 = .ok (.isub, 1) := by decide +kernel
theorem dX10_calmFrom_96 : decode cX10_calmFrom 96 = .ok (.iload 4, 2) := by decide +kernel
theorem dX10_calmFrom_98 : decode cX10_calmFrom 98 = .ok (.invokestatic 90, 3) := by decide +kernel
theorem dX10_calmFrom_101 : decode cX10_calmFrom 101 = .ok (.lmul, 1) := by decide +kernel
theorem dX10_calmFrom_102 : decode cX10_calmFrom 102 = .ok (.ladd, 1) := by decide +kernel
theorem dX10_calmFrom_103 : decode cX10_calmFrom 103 = .ok (.lstore 7, 2) := by decide +kernel
theorem dX10_calmFrom_105 : decode cX10_calmFrom 105 = .ok (.aload 6, 2) := by decide +kernel
theorem dX10_calmFrom_107 : decode cX10_calmFrom 107 = .ok (.aload_n 1, 1) := by decide +kernel
theorem dX10_calmFrom_108 : decode cX10_calmFrom 108 = .ok (.invokevirtual 71, 3) := by decide +kernel
theorem dX10_calmFrom_111 : decode cX10_calmFrom 111 = .ok (.aload 6, 2) := by decide +kernel
theorem dX10_calmFrom_113 : decode cX10_calmFrom 113 = .ok (.iconst 0, 1) := by decide +kernel
theorem dX10_calmFrom_114 : decode cX10_calmFrom 114 = .ok (.invokevirtual 78, 3) := by decide +kernel
theorem dX10_calmFrom_117 : decode cX10_calmFrom 117 = .ok (.ifCond .ne 30, 3) := by decide +kernel
theorem dX10_calmFrom_120 : decode cX10_calmFrom 120 = .ok (.lload 7, 2) := by decide +kernel
theorem dX10_calmFrom_122 : decode cX10_calmFrom 122 = .ok (.bipush 10, 2) := by decide +kernel
theorem dX10_calmFrom_124 : decode cX10_calmFrom 124 = .ok (.iload 4, 2) := by decide +kernel
theorem dX10_calmFrom_126 : decode cX10_calmFrom 126 = .ok (.isub, 1) := by decide +kernel
theorem dX10_calmFrom_127 : decode cX10_calmFrom 127 = .ok (.i2l, 1) := by decide +kernel
theorem dX10_calmFrom_128 : decode cX10_calmFrom 128 = .ok (.aload_n 0, 1) := by decide +kernel
theorem dX10_calmFrom_129 : decode cX10_calmFrom 129 = .ok (.aload 6, 2) := by decide +kernel
theorem dX10_calmFrom_131 : decode cX10_calmFrom 131 = .ok (.iload_n 2, 1) := by decide +kernel
theorem dX10_calmFrom_132 : decode cX10_calmFrom 132 = .ok (.iconst 1, 1) := by decide +kernel
theorem dX10_calmFrom_133 : decode cX10_calmFrom 133 = .ok (.iadd, 1) := by decide +kernel
theorem dX10_calmFrom_134 : decode cX10_calmFrom 134 = .ok (.iload 5, 2) := by decide +kernel
theorem dX10_calmFrom_136 : decode cX10_calmFrom 136 = .ok (.iconst 1, 1) := by decide +kernel
theorem dX10_calmFrom_137 : decode cX10_calmFrom 137 = .ok (.isub, 1) := by decide +kernel
theorem dX10_calmFrom_138 : decode cX10_calmFrom 138 = .ok (.iload 4, 2) := by decide +kernel
theorem dX10_calmFrom_140 : decode cX10_calmFrom 140 = .ok (.invokestatic 90, 3) := by decide +kernel
theorem dX10_calmFrom_143 : decode cX10_calmFrom 143 = .ok (.lmul, 1) := by decide +kernel
theorem dX10_calmFrom_144 : decode cX10_calmFrom 144 = .ok (.ladd, 1) := by decide +kernel
theorem dX10_calmFrom_145 : decode cX10_calmFrom 145 = .ok (.lstore 7, 2) := by decide +kernel
theorem dX10_calmFrom_147 : decode cX10_calmFrom 147 = .ok (.lload 7, 2) := by decide +kernel
theorem dX10_calmFrom_149 : decode cX10_calmFrom 149 = .ok (.lreturn, 1) := by decide +kernel
theorem dX10_fewestTeachers_0 : decode cX10_fewestTeachers 0 = .ok (.iconst (-1), 1) := by decide +kernel
theorem dX10_fewestTeachers_1 : decode cX10_fewestTeachers 1 = .ok (.istore_n 3, 1) := by decide +kernel
theorem dX10_fewestTeachers_2 : decode cX10_fewestTeachers 2 = .ok (.iconst 0, 1) := by decide +kernel
theorem dX10_fewestTeachers_3 : decode cX10_fewestTeachers 3 = .ok (.istore 4, 2) := by decide +kernel
theorem dX10_fewestTeachers_5 : decode cX10_fewestTeachers 5 = .ok (.iload 4, 2) := by decide +kernel
theorem dX10_fewestTeachers_7 : decode cX10_fewestTeachers 7 = .ok (.iconst 1, 1) := by decide +kernel
theorem dX10_fewestTeachers_8 : decode cX10_fewestTeachers 8 = .ok (.aload_n 1, 1) := by decide +kernel
theorem dX10_fewestTeachers_9 : decode cX10_fewestTeachers 9 = .ok (.getfield 94, 3) := by decide +kernel
theorem dX10_fewestTeachers_12 : decode cX10_fewestTeachers 12 = .ok (.ishl, 1) := by decide +kernel
theorem dX10_fewestTeachers_13 : decode cX10_fewestTeachers 13 = .ok (.if_icmp .ge 35, 3) := by decide +kernel
theorem dX10_fewestTeachers_16 : decode cX10_fewestTeachers 16 = .ok (.iload 4, 2) := by decide +kernel
theorem dX10_fewestTeachers_18 : decode cX10_fewestTeachers 18 = .ok (.invokestatic 97, 3) := by decide +kernel
theorem dX10_fewestTeachers_21 : decode cX10_fewestTeachers 21 = .ok (.iload_n 3, 1) := by decide +kernel
theorem dX10_fewestTeachers_22 : decode cX10_fewestTeachers 22 = .ok (.invokestatic 97, 3) := by decide +kernel
theorem dX10_fewestTeachers_25 : decode cX10_fewestTeachers 25 = .ok (.if_icmp .ge 17, 3) := by decide +kernel
theorem dX10_fewestTeachers_28 : decode cX10_fewestTeachers 28 = .ok (.aload_n 0, 1) := by decide +kernel
theorem dX10_fewestTeachers_29 : decode cX10_fewestTeachers 29 = .ok (.aload_n 1, 1) := by decide +kernel
theorem dX10_fewestTeachers_30 : decode cX10_fewestTeachers 30 = .ok (.iload_n 2, 1) := by decide +kernel
theorem dX10_fewestTeachers_31 : decode cX10_fewestTeachers 31 = .ok (.iload 4, 2) := by decide +kernel
theorem dX10_fewestTeachers_33 : decode cX10_fewestTeachers 33 = .ok (.invokevirtual 103, 3) := by decide +kernel
theorem dX10_fewestTeachers_36 : decode cX10_fewestTeachers 36 = .ok (.ifCond .eq 6, 3) := by decide +kernel
theorem dX10_fewestTeachers_39 : decode cX10_fewestTeachers 39 = .ok (.iload 4, 2) := by decide +kernel
theorem dX10_fewestTeachers_41 : decode cX10_fewestTeachers 41 = .ok (.istore_n 3, 1) := by decide +kernel
theorem dX10_fewestTeachers_42 : decode cX10_fewestTeachers 42 = .ok (.iinc 4 1, 3) := by decide +kernel
theorem dX10_fewestTeachers_45 : decode cX10_fewestTeachers 45 = .ok (.goto (-40), 3) := by decide +kernel
theorem dX10_fewestTeachers_48 : decode cX10_fewestTeachers 48 = .ok (.iload_n 3, 1) := by decide +kernel
theorem dX10_fewestTeachers_49 : decode cX10_fewestTeachers 49 = .ok (.ireturn, 1) := by decide +kernel
theorem dX10_keepsMemory_0 : decode cX10_keepsMemory 0 = .ok (.aload_n 0, 1) := by decide +kernel
theorem dX10_keepsMemory_1 : decode cX10_keepsMemory 1 = .ok (.getfield 33, 3) := by decide +kernel
theorem dX10_keepsMemory_4 : decode cX10_keepsMemory 4 = .ok (.aload_n 1, 1) := by decide +kernel
theorem dX10_keepsMemory_5 : decode cX10_keepsMemory 5 = .ok (.invokevirtual 71, 3) := by decide +kernel
theorem dX10_keepsMemory_8 : decode cX10_keepsMemory 8 = .ok (.aload_n 0, 1) := by decide +kernel
theorem dX10_keepsMemory_9 : decode cX10_keepsMemory 9 = .ok (.getfield 33, 3) := by decide +kernel
theorem dX10_keepsMemory_12 : decode cX10_keepsMemory 12 = .ok (.iload_n 3, 1) := by decide +kernel
theorem dX10_keepsMemory_13 : decode cX10_keepsMemory 13 = .ok (.invokevirtual 107, 3) := by decide +kernel
theorem dX10_keepsMemory_16 : decode cX10_keepsMemory 16 = .ok (.iconst 0, 1) := by decide +kernel
theorem dX10_keepsMemory_17 : decode cX10_keepsMemory 17 = .ok (.istore 4, 2) := by decide +kernel
theorem dX10_keepsMemory_19 : decode cX10_keepsMemory 19 = .ok (.iload 4, 2) := by decide +kernel
theorem dX10_keepsMemory_21 : decode cX10_keepsMemory 21 = .ok (.iload_n 2, 1) := by decide +kernel
theorem dX10_keepsMemory_22 : decode cX10_keepsMemory 22 = .ok (.if_icmp .ge 18, 3) := by decide +kernel
theorem dX10_keepsMemory_25 : decode cX10_keepsMemory 25 = .ok (.aload_n 0, 1) := by decide +kernel
theorem dX10_keepsMemory_26 : decode cX10_keepsMemory 26 = .ok (.getfield 33, 3) := by decide +kernel
theorem dX10_keepsMemory_29 : decode cX10_keepsMemory 29 = .ok (.iconst 0, 1) := by decide +kernel
theorem dX10_keepsMemory_30 : decode cX10_keepsMemory 30 = .ok (.invokevirtual 78, 3) := by decide +kernel
theorem dX10_keepsMemory_33 : decode cX10_keepsMemory 33 = .ok (.pop, 1) := by decide +kernel
theorem dX10_keepsMemory_34 : decode cX10_keepsMemory 34 = .ok (.iinc 4 1, 3) := by decide +kernel
theorem dX10_keepsMemory_37 : decode cX10_keepsMemory 37 = .ok (.goto (-18), 3) := by decide +kernel
theorem dX10_keepsMemory_40 : decode cX10_keepsMemory 40 = .ok (.aload_n 0, 1) := by decide +kernel
theorem dX10_keepsMemory_41 : decode cX10_keepsMemory 41 = .ok (.getfield 33, 3) := by decide +kernel
theorem dX10_keepsMemory_44 : decode cX10_keepsMemory 44 = .ok (.invokevirtual 110, 3) := by decide +kernel
theorem dX10_keepsMemory_47 : decode cX10_keepsMemory 47 = .ok (.ireturn, 1) := by decide +kernel
theorem dX10_fewestPayments_0 : decode cX10_fewestPayments 0 = .ok (.aload_n 1, 1) := by decide +kernel
theorem dX10_fewestPayments_1 : decode cX10_fewestPayments 1 = .ok (.getfield 114, 3) := by decide +kernel
theorem dX10_fewestPayments_4 : decode cX10_fewestPayments 4 = .ok (.getfield 94, 3) := by decide +kernel
theorem dX10_fewestPayments_7 : decode cX10_fewestPayments 7 = .ok (.istore_n 2, 1) := by decide +kernel
theorem dX10_fewestPayments_8 : decode cX10_fewestPayments 8 = .ok (.aload_n 1, 1) := by decide +kernel
theorem dX10_fewestPayments_9 : decode cX10_fewestPayments 9 = .ok (.getfield 114, 3) := by decide +kernel
theorem dX10_fewestPayments_12 : decode cX10_fewestPayments 12 = .ok (.invokevirtual 119, 3) := by decide +kernel
theorem dX10_fewestPayments_15 : decode cX10_fewestPayments 15 = .ok (.istore_n 3, 1) := by decide +kernel
theorem dX10_fewestPayments_16 : decode cX10_fewestPayments 16 = .ok (.iconst 1, 1) := by decide +kernel
theorem dX10_fewestPayments_17 : decode cX10_fewestPayments 17 = .ok (.iload_n 2, 1) := by decide +kernel
theorem dX10_fewestPayments_18 : decode cX10_fewestPayments 18 = .ok (.ishl, 1) := by decide +kernel
theorem dX10_fewestPayments_19 : decode cX10_fewestPayments 19 = .ok (.iconst 1, 1) := by decide +kernel
theorem dX10_fewestPayments_20 : decode cX10_fewestPayments 20 = .ok (.isub, 1) := by decide +kernel
theorem dX10_fewestPayments_21 : decode cX10_fewestPayments 21 = .ok (.istore 4, 2) := by decide +kernel
theorem dX10_fewestPayments_23 : decode cX10_fewestPayments 23 = .ok (.iconst 1, 1) := by decide +kernel
theorem dX10_fewestPayments_24 : decode cX10_fewestPayments 24 = .ok (.istore 5, 2) := by decide +kernel
theorem dX10_fewestPayments_26 : decode cX10_fewestPayments 26 = .ok (.iload 5, 2) := by decide +kernel
theorem dX10_fewestPayments_28 : decode cX10_fewestPayments 28 = .ok (.iload 4, 2) := by decide +kernel
theorem dX10_fewestPayments_30 : decode cX10_fewestPayments 30 = .ok (.if_icmp .gt 84, 3) := by decide +kernel
theorem dX10_fewestPayments_33 : decode cX10_fewestPayments 33 = .ok (.iload 5, 2) := by decide +kernel
theorem dX10_fewestPayments_35 : decode cX10_fewestPayments 35 = .ok (.invokestatic 123, 3) := by decide +kernel
theorem dX10_fewestPayments_38 : decode cX10_fewestPayments 38 = .ok (.istore 6, 2) := by decide +kernel
theorem dX10_fewestPayments_40 : decode cX10_fewestPayments 40 = .ok (.aload_n 0, 1) := by decide +kernel
theorem dX10_fewestPayments_41 : decode cX10_fewestPayments 41 = .ok (.getfield 24, 3) := by decide +kernel
theorem dX10_fewestPayments_44 : decode cX10_fewestPayments 44 = .ok (.iload 5, 2) := by decide +kernel
theorem dX10_fewestPayments_46 : decode cX10_fewestPayments 46 = .ok (.aload_n 0, 1) := by decide +kernel
theorem dX10_fewestPayments_47 : decode cX10_fewestPayments 47 = .ok (.getfield 24, 3) := by decide +kernel
theorem dX10_fewestPayments_50 : decode cX10_fewestPayments 50 = .ok (.iload 5, 2) := by decide +kernel
theorem dX10_fewestPayments_52 : decode cX10_fewestPayments 52 = .ok (.iload 5, 2) := by decide +kernel
theorem dX10_fewestPayments_54 : decode cX10_fewestPayments 54 = .ok (.iconst 1, 1) := by decide +kernel
theorem dX10_fewestPayments_55 : decode cX10_fewestPayments 55 = .ok (.isub, 1) := by decide +kernel
theorem dX10_fewestPayments_56 : decode cX10_fewestPayments 56 = .ok (.iand, 1) := by decide +kernel
theorem dX10_fewestPayments_57 : decode cX10_fewestPayments 57 = .ok (.invokestatic 45, 3) := by decide +kernel
theorem dX10_fewestPayments_60 : decode cX10_fewestPayments 60 = .ok (.aload_n 1, 1) := by decide +kernel
theorem dX10_fewestPayments_61 : decode cX10_fewestPayments 61 = .ok (.getfield 126, 3) := by decide +kernel
theorem dX10_fewestPayments_64 : decode cX10_fewestPayments 64 = .ok (.iload 6, 2) := by decide +kernel
theorem dX10_fewestPayments_66 : decode cX10_fewestPayments 66 = .ok (.iload_n 3, 1) := by decide +kernel
theorem dX10_fewestPayments_67 : decode cX10_fewestPayments 67 = .ok (.invokevirtual 130, 3) := by decide +kernel
theorem dX10_fewestPayments_70 : decode cX10_fewestPayments 70 = .ok (.iadd, 1) := by decide +kernel
theorem dX10_fewestPayments_71 : decode cX10_fewestPayments 71 = .ok (.invokestatic 67, 3) := by decide +kernel
theorem dX10_fewestPayments_74 : decode cX10_fewestPayments 74 = .ok (.aload_n 0, 1) := by decide +kernel
theorem dX10_fewestPayments_75 : decode cX10_fewestPayments 75 = .ok (.getfield 27, 3) := by decide +kernel
theorem dX10_fewestPayments_78 : decode cX10_fewestPayments 78 = .ok (.iload 5, 2) := by decide +kernel
theorem dX10_fewestPayments_80 : decode cX10_fewestPayments 80 = .ok (.aload_n 0, 1) := by decide +kernel
theorem dX10_fewestPayments_81 : decode cX10_fewestPayments 81 = .ok (.iload 5, 2) := by decide +kernel
theorem dX10_fewestPayments_83 : decode cX10_fewestPayments 83 = .ok (.iload_n 2, 1) := by decide +kernel
theorem dX10_fewestPayments_84 : decode cX10_fewestPayments 84 = .ok (.invokevirtual 136, 3) := by decide +kernel
theorem dX10_fewestPayments_87 : decode cX10_fewestPayments 87 = .ok (.aload_n 0, 1) := by decide +kernel
theorem dX10_fewestPayments_88 : decode cX10_fewestPayments 88 = .ok (.getfield 24, 3) := by decide +kernel
theorem dX10_fewestPayments_91 : decode cX10_fewestPayments 91 = .ok (.iload 5, 2) := by decide +kernel
theorem dX10_fewestPayments_93 : decode cX10_fewestPayments 93 = .ok (.invokestatic 45, 3) := by decide +kernel
theorem dX10_fewestPayments_96 : decode cX10_fewestPayments 96 = .ok (.ifCond .ne 7, 3) := by decide +kernel
theorem dX10_fewestPayments_99 : decode cX10_fewestPayments 99 = .ok (.iconst 1, 1) := by decide +kernel
theorem dX10_fewestPayments_100 : decode cX10_fewestPayments 100 = .ok (.goto 4, 3) := by decide +kernel
theorem dX10_fewestPayments_103 : decode cX10_fewestPayments 103 = .ok (.iconst 0, 1) := by decide +kernel
theorem dX10_fewestPayments_104 : decode cX10_fewestPayments 104 = .ok (.iadd, 1) := by decide +kernel
theorem dX10_fewestPayments_105 : decode cX10_fewestPayments 105 = .ok (.invokestatic 67, 3) := by decide +kernel
theorem dX10_fewestPayments_108 : decode cX10_fewestPayments 108 = .ok (.iinc 5 1, 3) := by decide +kernel
theorem dX10_fewestPayments_111 : decode cX10_fewestPayments 111 = .ok (.goto (-85), 3) := by decide +kernel
theorem dX10_fewestPayments_114 : decode cX10_fewestPayments 114 = .ok (.iload_n 2, 1) := by decide +kernel
theorem dX10_fewestPayments_115 : decode cX10_fewestPayments 115 = .ok (.aload_n 0, 1) := by decide +kernel
theorem dX10_fewestPayments_116 : decode cX10_fewestPayments 116 = .ok (.getfield 27, 3) := by decide +kernel
theorem dX10_fewestPayments_119 : decode cX10_fewestPayments 119 = .ok (.iload 4, 2) := by decide +kernel
theorem dX10_fewestPayments_121 : decode cX10_fewestPayments 121 = .ok (.invokestatic 45, 3) := by decide +kernel
theorem dX10_fewestPayments_124 : decode cX10_fewestPayments 124 = .ok (.isub, 1) := by decide +kernel
theorem dX10_fewestPayments_125 : decode cX10_fewestPayments 125 = .ok (.ireturn, 1) := by decide +kernel
theorem dX10_mostGroupsBelow_0 : decode cX10_mostGroupsBelow 0 = .ok (.iconst 0, 1) := by decide +kernel
theorem dX10_mostGroupsBelow_1 : decode cX10_mostGroupsBelow 1 = .ok (.istore_n 3, 1) := by decide +kernel
theorem dX10_mostGroupsBelow_2 : decode cX10_mostGroupsBelow 2 = .ok (.iconst 0, 1) := by decide +kernel
theorem dX10_mostGroupsBelow_3 : decode cX10_mostGroupsBelow 3 = .ok (.istore 4, 2) := by decide +kernel
theorem dX10_mostGroupsBelow_5 : decode cX10_mostGroupsBelow 5 = .ok (.iload 4, 2) := by decide +kernel
theorem dX10_mostGroupsBelow_7 : decode cX10_mostGroupsBelow 7 = .ok (.iload_n 2, 1) := by decide +kernel
theorem dX10_mostGroupsBelow_8 : decode cX10_mostGroupsBelow 8 = .ok (.if_icmp .ge 36, 3) := by decide +kernel
theorem dX10_mostGroupsBelow_11 : decode cX10_mostGroupsBelow 11 = .ok (.iload_n 1, 1) := by decide +kernel
theorem dX10_mostGroupsBelow_12 : decode cX10_mostGroupsBelow 12 = .ok (.iload 4, 2) := by decide +kernel
theorem dX10_mostGroupsBelow_14 : decode cX10_mostGroupsBelow 14 = .ok (.ishr, 1) := by decide +kernel
theorem dX10_mostGroupsBelow_15 : decode cX10_mostGroupsBelow 15 = .ok (.iconst 1, 1) := by decide +kernel
theorem dX10_mostGroupsBelow_16 : decode cX10_mostGroupsBelow 16 = .ok (.iand, 1) := by decide +kernel
theorem dX10_mostGroupsBelow_17 : decode cX10_mostGroupsBelow 17 = .ok (.ifCond .eq 21, 3) := by decide +kernel
theorem dX10_mostGroupsBelow_20 : decode cX10_mostGroupsBelow 20 = .ok (.iload_n 3, 1) := by decide +kernel
theorem dX10_mostGroupsBelow_21 : decode cX10_mostGroupsBelow 21 = .ok (.aload_n 0, 1) := by decide +kernel
theorem dX10_mostGroupsBelow_22 : decode cX10_mostGroupsBelow 22 = .ok (.getfield 27, 3) := by decide +kernel
theorem dX10_mostGroupsBelow_25 : decode cX10_mostGroupsBelow 25 = .ok (.iload_n 1, 1) := by decide +kernel
theorem dX10_mostGroupsBelow_26 : decode cX10_mostGroupsBelow 26 = .ok (.iconst 1, 1) := by decide +kernel
theorem dX10_mostGroupsBelow_27 : decode cX10_mostGroupsBelow 27 = .ok (.iload 4, 2) := by decide +kernel
theorem dX10_mostGroupsBelow_29 : decode cX10_mostGroupsBelow 29 = .ok (.ishl, 1) := by decide +kernel
theorem dX10_mostGroupsBelow_30 : decode cX10_mostGroupsBelow 30 = .ok (.ixor, 1) := by decide +kernel
theorem dX10_mostGroupsBelow_31 : decode cX10_mostGroupsBelow 31 = .ok (.invokestatic 45, 3) := by decide +kernel
theorem dX10_mostGroupsBelow_34 : decode cX10_mostGroupsBelow 34 = .ok (.invokestatic 139, 3) := by decide +kernel
theorem dX10_mostGroupsBelow_37 : decode cX10_mostGroupsBelow 37 = .ok (.istore_n 3, 1) := by decide +kernel
theorem dX10_mostGroupsBelow_38 : decode cX10_mostGroupsBelow 38 = .ok (.iinc 4 1, 3) := by decide +kernel
theorem dX10_mostGroupsBelow_41 : decode cX10_mostGroupsBelow 41 = .ok (.goto (-36), 3) := by decide +kernel
theorem dX10_mostGroupsBelow_44 : decode cX10_mostGroupsBelow 44 = .ok (.iload_n 3, 1) := by decide +kernel
theorem dX10_mostGroupsBelow_45 : decode cX10_mostGroupsBelow 45 = .ok (.ireturn, 1) := by decide +kernel
theorem dX11_init_0 : decode cX11_init 0 = .ok (.aload_n 0, 1) := by decide +kernel
theorem dX11_init_1 : decode cX11_init 1 = .ok (.invokespecial 1, 3) := by decide +kernel
theorem dX11_init_4 : decode cX11_init 4 = .ok (.aload_n 0, 1) := by decide +kernel
theorem dX11_init_5 : decode cX11_init 5 = .ok (.new 7, 3) := by decide +kernel
theorem dX11_init_8 : decode cX11_init 8 = .ok (.dup, 1) := by decide +kernel
theorem dX11_init_9 : decode cX11_init 9 = .ok (.invokespecial 9, 3) := by decide +kernel
theorem dX11_init_12 : decode cX11_init 12 = .ok (.putfield 10, 3) := by decide +kernel
theorem dX11_init_15 : decode cX11_init 15 = .ok (.aload_n 0, 1) := by decide +kernel
theorem dX11_init_16 : decode cX11_init 16 = .ok (.bipush 6, 2) := by decide +kernel
theorem dX11_init_18 : decode cX11_init 18 = .ok (.newarray .int, 2) := by decide +kernel
theorem dX11_init_20 : decode cX11_init 20 = .ok (.putfield 16, 3) := by decide +kernel
theorem dX11_init_23 : decode cX11_init 23 = .ok (.iconst 5, 1) := by decide +kernel
theorem dX11_init_24 : decode cX11_init 24 = .ok (.anewarray 20, 3) := by decide +kernel
theorem dX11_init_27 : decode cX11_init 27 = .ok (.dup, 1) := by decide +kernel
theorem dX11_init_28 : decode cX11_init 28 = .ok (.iconst 0, 1) := by decide +kernel
theorem dX11_init_29 : decode cX11_init 29 = .ok (.new 20, 3) := by decide +kernel
theorem dX11_init_32 : decode cX11_init 32 = .ok (.dup, 1) := by decide +kernel
theorem dX11_init_33 : decode cX11_init 33 = .ok (.invokespecial 22, 3) := by decide +kernel
theorem dX11_init_36 : decode cX11_init 36 = .ok (.aastore, 1) := by decide +kernel
theorem dX11_init_37 : decode cX11_init 37 = .ok (.dup, 1) := by decide +kernel
theorem dX11_init_38 : decode cX11_init 38 = .ok (.iconst 1, 1) := by decide +kernel
theorem dX11_init_39 : decode cX11_init 39 = .ok (.new 23, 3) := by decide +kernel
theorem dX11_init_42 : decode cX11_init 42 = .ok (.dup, 1) := by decide +kernel
theorem dX11_init_43 : decode cX11_init 43 = .ok (.invokespecial 25, 3) := by decide +kernel
theorem dX11_init_46 : decode cX11_init 46 = .ok (.aastore, 1) := by decide +kernel
theorem dX11_init_47 : decode cX11_init 47 = .ok (.dup, 1) := by decide +kernel
theorem dX11_init_48 : decode cX11_init 48 = .ok (.iconst 2, 1) := by decide +kernel
theorem dX11_init_49 : decode cX11_init 49 = .ok (.new 26, 3) := by decide +kernel
theorem dX11_init_52 : decode cX11_init 52 = .ok (.dup, 1) := by decide +kernel
theorem dX11_init_53 : decode cX11_init 53 = .ok (.invokespecial 28, 3) := by decide +kernel
theorem dX11_init_56 : decode cX11_init 56 = .ok (.aastore, 1) := by decide +kernel
theorem dX11_init_57 : decode cX11_init 57 = .ok (.dup, 1) := by decide +kernel
theorem dX11_init_58 : decode cX11_init 58 = .ok (.iconst 3, 1) := by decide +kernel
theorem dX11_init_59 : decode cX11_init 59 = .ok (.new 29, 3) := by decide +kernel
theorem dX11_init_62 : decode cX11_init 62 = .ok (.dup, 1) := by decide +kernel
theorem dX11_init_63 : decode cX11_init 63 = .ok (.invokespecial 31, 3) := by decide +kernel
theorem dX11_init_66 : decode cX11_init 66 = .ok (.aastore, 1) := by decide +kernel
theorem dX11_init_67 : decode cX11_init 67 = .ok (.dup, 1) := by decide +kernel
theorem dX11_init_68 : decode cX11_init 68 = .ok (.iconst 4, 1) := by decide +kernel
theorem dX11_init_69 : decode cX11_init 69 = .ok (.new 32, 3) := by decide +kernel
theorem dX11_init_72 : decode cX11_init 72 = .ok (.dup, 1) := by decide +kernel
theorem dX11_init_73 : decode cX11_init 73 = .ok (.invokespecial 34, 3) := by decide +kernel
theorem dX11_init_76 : decode cX11_init 76 = .ok (.aastore, 1) := by decide +kernel
theorem dX11_init_77 : decode cX11_init 77 = .ok (.astore_n 1, 1) := by decide +kernel
theorem dX11_init_78 : decode cX11_init 78 = .ok (.aload_n 0, 1) := by decide +kernel
theorem dX11_init_79 : decode cX11_init 79 = .ok (.new 35, 3) := by decide +kernel
theorem dX11_init_82 : decode cX11_init 82 = .ok (.dup, 1) := by decide +kernel
theorem dX11_init_83 : decode cX11_init 83 = .ok (.aload_n 1, 1) := by decide +kernel
theorem dX11_init_84 : decode cX11_init 84 = .ok (.invokespecial 37, 3) := by decide +kernel
theorem dX11_init_87 : decode cX11_init 87 = .ok (.putfield 40, 3) := by decide +kernel
theorem dX11_init_90 : decode cX11_init 90 = .ok (.aload_n 0, 1) := by decide +kernel
theorem dX11_init_91 : decode cX11_init 91 = .ok (.new 35, 3) := by decide +kernel
theorem dX11_init_94 : decode cX11_init 94 = .ok (.dup, 1) := by decide +kernel
theorem dX11_init_95 : decode cX11_init 95 = .ok (.aload_n 1, 1) := by decide +kernel
theorem dX11_init_96 : decode cX11_init 96 = .ok (.invokespecial 37, 3) := by decide +kernel
theorem dX11_init_99 : decode cX11_init 99 = .ok (.putfield 44, 3) := by decide +kernel
theorem dX11_init_102 : decode cX11_init 102 = .ok (.aload_n 0, 1) := by decide +kernel
theorem dX11_init_103 : decode cX11_init 103 = .ok (.new 35, 3) := by decide +kernel
theorem dX11_init_106 : decode cX11_init 106 = .ok (.dup, 1) := by decide +kernel
theorem dX11_init_107 : decode cX11_init 107 = .ok (.aload_n 1, 1) := by decide +kernel
theorem dX11_init_108 : decode cX11_init 108 = .ok (.invokespecial 37, 3) := by decide +kernel
theorem dX11_init_111 : decode cX11_init 111 = .ok (.putfield 47, 3) := by decide +kernel
theorem dX11_init_114 : decode cX11_init 114 = .ok (.aload_n 0, 1) := by decide +kernel
theorem dX11_init_115 : decode cX11_init 115 = .ok (.new 35, 3) := by decide +kernel
theorem dX11_init_118 : decode cX11_init 118 = .ok (.dup, 1) := by decide +kernel
theorem dX11_init_119 : decode cX11_init 119 = .ok (.aload_n 1, 1) := by decide +kernel
theorem dX11_init_120 : decode cX11_init 120 = .ok (.invokespecial 37, 3) := by decide +kernel
theorem dX11_init_123 : decode cX11_init 123 = .ok (.putfield 50, 3) := by decide +kernel
theorem dX11_init_126 : decode cX11_init 126 = .ok (.aload_n 0, 1) := by decide +kernel
theorem dX11_init_127 : decode cX11_init 127 = .ok (.new 53, 3) := by decide +kernel
theorem dX11_init_130 : decode cX11_init 130 = .ok (.dup, 1) := by decide +kernel
theorem dX11_init_131 : decode cX11_init 131 = .ok (.aload_n 1, 1) := by decide +kernel
theorem dX11_init_132 : decode cX11_init 132 = .ok (.invokespecial 55, 3) := by decide +kernel
theorem dX11_init_135 : decode cX11_init 135 = .ok (.putfield 56, 3) := by decide +kernel
theorem dX11_init_138 : decode cX11_init 138 = .ok (.aload_n 0, 1) := by decide +kernel
theorem dX11_init_139 : decode cX11_init 139 = .ok (.lconst 1, 1) := by decide +kernel
theorem dX11_init_140 : decode cX11_init 140 = .ok (.putfield 60, 3) := by decide +kernel
theorem dX11_init_143 : decode cX11_init 143 = .ok (.return_, 1) := by decide +kernel
theorem dX11_year_0 : decode cX11_year 0 = .ok (.iload_n 1, 1) := by decide +kernel
theorem dX11_year_1 : decode cX11_year 1 = .ok (.iconst 2, 1) := by decide +kernel
theorem dX11_year_2 : decode cX11_year 2 = .ok (.bipush 70, 2) := by decide +kernel
theorem dX11_year_4 : decode cX11_year 4 = .ok (.invokestatic 64, 3) := by decide +kernel
theorem dX11_year_7 : decode cX11_year 7 = .ok (.ifCond .ne 10, 3) := by decide +kernel
theorem dX11_year_10 : decode cX11_year 10 = .ok (.aload_n 0, 1) := by decide +kernel
theorem dX11_year_11 : decode cX11_year 11 = .ok (.bipush (-2), 2) := by decide +kernel
theorem dX11_year_13 : decode cX11_year 13 = .ok (.invokevirtual 68, 3) := by decide +kernel
theorem dX11_year_16 : decode cX11_year 16 = .ok (.ireturn, 1) := by decide +kernel
theorem dX11_year_17 : decode cX11_year 17 = .ok (.aload_n 0, 1) := by decide +kernel
theorem dX11_year_18 : decode cX11_year 18 = .ok (.getfield 40, 3) := by decide +kernel
theorem dX11_year_21 : decode cX11_year 21 = .ok (.getfield 72, 3) := by decide +kernel
theorem dX11_year_24 : decode cX11_year 24 = .ok (.getfield 76, 3) := by decide +kernel
theorem dX11_year_27 : decode cX11_year 27 = .ok (.istore_n 2, 1) := by decide +kernel
theorem dX11_year_28 : decode cX11_year 28 = .ok (.aload_n 0, 1) := by decide +kernel
theorem dX11_year_29 : decode cX11_year 29 = .ok (.getfield 40, 3) := by decide +kernel
theorem dX11_year_32 : decode cX11_year 32 = .ok (.iload_n 1, 1) := by decide +kernel
theorem dX11_year_33 : decode cX11_year 33 = .ok (.invokevirtual 82, 3) := by decide +kernel
theorem dX11_year_36 : decode cX11_year 36 = .ok (.iload_n 2, 1) := by decide +kernel
theorem dX11_year_37 : decode cX11_year 37 = .ok (.ireturn, 1) := by decide +kernel
theorem dX11_store_0 : decode cX11_store 0 = .ok (.iload_n 1, 1) := by decide +kernel
theorem dX11_store_1 : decode cX11_store 1 = .ok (.iconst 0, 1) := by decide +kernel
theorem dX11_store_2 : decode cX11_store 2 = .ok (.iconst 3, 1) := by decide +kernel
theorem dX11_store_3 : decode cX11_store 3 = .ok (.invokestatic 64, 3) := by decide +kernel
theorem dX11_store_6 : decode cX11_store 6 = .ok (.ifCond .eq 14, 3) := by decide +kernel
theorem dX11_store_9 : decode cX11_store 9 = .ok (.iload_n 2, 1) := by decide +kernel
theorem dX11_store_10 : decode cX11_store 10 = .ok (.iconst 0, 1) := by decide +kernel
theorem dX11_store_11 : decode cX11_store 11 = .ok (.sipush 9999, 3) := by decide +kernel
theorem dX11_store_14 : decode cX11_store 14 = .ok (.invokestatic 64, 3) := by decide +kernel
theorem dX11_store_17 : decode cX11_store 17 = .ok (.ifCond .ne 10, 3) := by decide +kernel
theorem dX11_store_20 : decode cX11_store 20 = .ok (.aload_n 0, 1) := by decide +kernel
theorem dX11_store_21 : decode cX11_store 21 = .ok (.bipush (-2), 2) := by decide +kernel
theorem dX11_store_23 : decode cX11_store 23 = .ok (.invokevirtual 68, 3) := by decide +kernel
theorem dX11_store_26 : decode cX11_store 26 = .ok (.ireturn, 1) := by decide +kernel
theorem dX11_store_27 : decode cX11_store 27 = .ok (.aload_n 0, 1) := by decide +kernel
theorem dX11_store_28 : decode cX11_store 28 = .ok (.getfield 40, 3) := by decide +kernel
theorem dX11_store_31 : decode cX11_store 31 = .ok (.getfield 72, 3) := by decide +kernel
theorem dX11_store_34 : decode cX11_store 34 = .ok (.iload_n 1, 1) := by decide +kernel
theorem dX11_store_35 : decode cX11_store 35 = .ok (.invokevirtual 86, 3) := by decide +kernel
theorem dX11_store_38 : decode cX11_store 38 = .ok (.istore_n 3, 1) := by decide +kernel
theorem dX11_store_39 : decode cX11_store 39 = .ok (.aload_n 0, 1) := by decide +kernel
theorem dX11_store_40 : decode cX11_store 40 = .ok (.getfield 40, 3) := by decide +kernel
theorem dX11_store_43 : decode cX11_store 43 = .ok (.getfield 72, 3) := by decide +kernel
theorem dX11_store_46 : decode cX11_store 46 = .ok (.iload_n 1, 1) := by decide +kernel
theorem dX11_store_47 : decode cX11_store 47 = .ok (.iload_n 2, 1) := by decide +kernel
theorem dX11_store_48 : decode cX11_store 48 = .ok (.invokevirtual 89, 3) := by decide +kernel
theorem dX11_store_51 : decode cX11_store 51 = .ok (.iload_n 3, 1) := by decide +kernel
theorem dX11_store_52 : decode cX11_store 52 = .ok (.ireturn, 1) := by decide +kernel
theorem dX11_family_0 : decode cX11_family 0 = .ok (.iload_n 1, 1) := by decide +kernel
theorem dX11_family_1 : decode cX11_family 1 = .ok (.iconst 0, 1) := by decide +kernel
theorem dX11_family_2 : decode cX11_family 2 = .ok (.iconst 4, 1) := by decide +kernel
theorem dX11_family_3 : decode cX11_family 3 = .ok (.invokestatic 64, 3) := by decide +kernel
theorem dX11_family_6 : decode cX11_family 6 = .ok (.ifCond .eq 13, 3) := by decide +kernel
theorem dX11_family_9 : decode cX11_family 9 = .ok (.iload_n 2, 1) := by decide +kernel
theorem dX11_family_10 : decode cX11_family 10 = .ok (.iconst 1, 1) := by decide +kernel
theorem dX11_family_11 : decode cX11_family 11 = .ok (.bipush 20, 2) := by decide +kernel
theorem dX11_family_13 : decode cX11_family 13 = .ok (.invokestatic 64, 3) := by decide +kernel
theorem dX11_family_16 : decode cX11_family 16 = .ok (.ifCond .ne 10, 3) := by decide +kernel
theorem dX11_family_19 : decode cX11_family 19 = .ok (.aload_n 0, 1) := by decide +kernel
theorem dX11_family_20 : decode cX11_family 20 = .ok (.bipush (-2), 2) := by decide +kernel
theorem dX11_family_22 : decode cX11_family 22 = .ok (.invokevirtual 68, 3) := by decide +kernel
theorem dX11_family_25 : decode cX11_family 25 = .ok (.ireturn, 1) := by decide +kernel
theorem dX11_family_26 : decode cX11_family 26 = .ok (.iload_n 3, 1) := by decide +kernel
theorem dX11_family_27 : decode cX11_family 27 = .ok (.iconst 0, 1) := by decide +kernel
theorem dX11_family_28 : decode cX11_family 28 = .ok (.bipush 9, 2) := by decide +kernel
theorem dX11_family_30 : decode cX11_family 30 = .ok (.invokestatic 64, 3) := by decide +kernel
theorem dX11_family_33 : decode cX11_family 33 = .ok (.ifCond .ne 10, 3) := by decide +kernel
theorem dX11_family_36 : decode cX11_family 36 = .ok (.aload_n 0, 1) := by decide +kernel
theorem dX11_family_37 : decode cX11_family 37 = .ok (.bipush (-2), 2) := by decide +kernel
theorem dX11_family_39 : decode cX11_family 39 = .ok (.invokevirtual 68, 3) := by decide +kernel
theorem dX11_family_42 : decode cX11_family 42 = .ok (.ireturn, 1) := by decide +kernel
theorem dX11_family_43 : decode cX11_family 43 = .ok (.aload_n 0, 1) := by decide +kernel
theorem dX11_family_44 : decode cX11_family 44 = .ok (.getfield 40, 3) := by decide +kernel
theorem dX11_family_47 : decode cX11_family 47 = .ok (.getfield 72, 3) := by decide +kernel
theorem dX11_family_50 : decode cX11_family 50 = .ok (.getfield 93, 3) := by decide +kernel
theorem dX11_family_53 : decode cX11_family 53 = .ok (.bipush 6, 2) := by decide +kernel
theorem dX11_family_55 : decode cX11_family 55 = .ok (.if_icmp .lt 8, 3) := by decide +kernel
theorem dX11_family_58 : decode cX11_family 58 = .ok (.aload_n 0, 1) := by decide +kernel
theorem dX11_family_59 : decode cX11_family 59 = .ok (.invokevirtual 96, 3) := by decide +kernel
theorem dX11_family_62 : decode cX11_family 62 = .ok (.ireturn, 1) := by decide +kernel
theorem dX11_family_63 : decode cX11_family 63 = .ok (.aload_n 0, 1) := by decide +kernel
theorem dX11_family_64 : decode cX11_family 64 = .ok (.getfield 40, 3) := by decide +kernel
theorem dX11_family_67 : decode cX11_family 67 = .ok (.getfield 72, 3) := by decide +kernel
theorem dX11_family_70 : decode cX11_family 70 = .ok (.iload_n 1, 1) := by decide +kernel
theorem dX11_family_71 : decode cX11_family 71 = .ok (.iload_n 2, 1) := by decide +kernel
theorem dX11_family_72 : decode cX11_family 72 = .ok (.iload_n 3, 1) := by decide +kernel
theorem dX11_family_73 : decode cX11_family 73 = .ok (.invokevirtual 100, 3) := by decide +kernel
theorem dX11_family_76 : decode cX11_family 76 = .ok (.ireturn, 1) := by decide +kernel
theorem dX11_job_0 : decode cX11_job 0 = .ok (.aload_n 0, 1) := by decide +kernel
theorem dX11_job_1 : decode cX11_job 1 = .ok (.iload_n 1, 1) := by decide +kernel
theorem dX11_job_2 : decode cX11_job 2 = .ok (.invokevirtual 104, 3) := by decide +kernel
theorem dX11_job_5 : decode cX11_job 5 = .ok (.ifCond .eq 12, 3) := by decide +kernel
theorem dX11_job_8 : decode cX11_job 8 = .ok (.iload_n 2, 1) := by decide +kernel
theorem dX11_job_9 : decode cX11_job 9 = .ok (.iconst 0, 1) := by decide +kernel
theorem dX11_job_10 : decode cX11_job 10 = .ok (.iconst 4, 1) := by decide +kernel
theorem dX11_job_11 : decode cX11_job 11 = .ok (.invokestatic 64, 3) := by decide +kernel
theorem dX11_job_14 : decode cX11_job 14 = .ok (.ifCond .ne 10, 3) := by decide +kernel
theorem dX11_job_17 : decode cX11_job 17 = .ok (.aload_n 0, 1) := by decide +kernel
theorem dX11_job_18 : decode cX11_job 18 = .ok (.bipush (-2), 2) := by decide +kernel
theorem dX11_job_20 : decode cX11_job 20 = .ok (.invokevirtual 68, 3) := by decide +kernel
theorem dX11_job_23 : decode cX11_job 23 = .ok (.ireturn, 1) := by decide +kernel
theorem dX11_job_24 : decode cX11_job 24 = .ok (.aload_n 0, 1) := by decide +kernel
theorem dX11_job_25 : decode cX11_job 25 = .ok (.getfield 40, 3) := by decide +kernel
theorem dX11_job_28 : decode cX11_job 28 = .ok (.getfield 72, 3) := by decide +kernel
theorem dX11_job_31 : decode cX11_job 31 = .ok (.iload_n 1, 1) := by decide +kernel
theorem dX11_job_32 : decode cX11_job 32 = .ok (.invokevirtual 108, 3) := by decide +kernel
theorem dX11_job_35 : decode cX11_job 35 = .ok (.astore_n 3, 1) := by decide +kernel
theorem dX11_job_36 : decode cX11_job 36 = .ok (.aload_n 3, 1) := by decide +kernel
theorem dX11_job_37 : decode cX11_job 37 = .ok (.getfield 112, 3) := by decide +kernel
theorem dX11_job_40 : decode cX11_job 40 = .ok (.istore 4, 2) := by decide +kernel
theorem dX11_job_42 : decode cX11_job 42 = .ok (.aload_n 3, 1) := by decide +kernel
theorem dX11_job_43 : decode cX11_job 43 = .ok (.iload_n 2, 1) := by decide +kernel
theorem dX11_job_44 : decode cX11_job 44 = .ok (.putfield 112, 3) := by decide +kernel
theorem dX11_job_47 : decode cX11_job 47 = .ok (.iload 4, 2) := by decide +kernel
theorem dX11_job_49 : decode cX11_job 49 = .ok (.ireturn, 1) := by decide +kernel
theorem dX11_type_0 : decode cX11_type 0 = .ok (.iload_n 1, 1) := by decide +kernel
theorem dX11_type_1 : decode cX11_type 1 = .ok (.iconst 0, 1) := by decide +kernel
theorem dX11_type_2 : decode cX11_type 2 = .ok (.bipush 127, 2) := by decide +kernel
theorem dX11_type_4 : decode cX11_type 4 = .ok (.invokestatic 64, 3) := by decide +kernel
theorem dX11_type_7 : decode cX11_type 7 = .ok (.ifCond .ne 10, 3) := by decide +kernel
theorem dX11_type_10 : decode cX11_type 10 = .ok (.aload_n 0, 1) := by decide +kernel
theorem dX11_type_11 : decode cX11_type 11 = .ok (.bipush (-2), 2) := by decide +kernel
theorem dX11_type_13 : decode cX11_type 13 = .ok (.invokevirtual 68, 3) := by decide +kernel
theorem dX11_type_16 : decode cX11_type 16 = .ok (.ireturn, 1) := by decide +kernel
theorem dX11_type_17 : decode cX11_type 17 = .ok (.aload_n 0, 1) := by decide +kernel
theorem dX11_type_18 : decode cX11_type 18 = .ok (.getfield 10, 3) := by decide +kernel
theorem dX11_type_21 : decode cX11_type 21 = .ok (.getfield 117, 3) := by decide +kernel
theorem dX11_type_24 : decode cX11_type 24 = .ok (.sipush 150, 3) := by decide +kernel
theorem dX11_type_27 : decode cX11_type 27 = .ok (.if_icmp .lt 8, 3) := by decide +kernel
theorem dX11_type_30 : decode cX11_type 30 = .ok (.aload_n 0, 1) := by decide +kernel
theorem dX11_type_31 : decode cX11_type 31 = .ok (.invokevirtual 96, 3) := by decide +kernel
theorem dX11_type_34 : decode cX11_type 34 = .ok (.ireturn, 1) := by decide +kernel
theorem dX11_type_35 : decode cX11_type 35 = .ok (.aload_n 0, 1) := by decide +kernel
theorem dX11_type_36 : decode cX11_type 36 = .ok (.getfield 10, 3) := by decide +kernel
theorem dX11_type_39 : decode cX11_type 39 = .ok (.iload_n 1, 1) := by decide +kernel
theorem dX11_type_40 : decode cX11_type 40 = .ok (.invokevirtual 118, 3) := by decide +kernel
theorem dX11_type_43 : decode cX11_type 43 = .ok (.ireturn, 1) := by decide +kernel
theorem dX11_clear_0 : decode cX11_clear 0 = .ok (.aload_n 0, 1) := by decide +kernel
theorem dX11_clear_1 : decode cX11_clear 1 = .ok (.getfield 10, 3) := by decide +kernel
theorem dX11_clear_4 : decode cX11_clear 4 = .ok (.getfield 117, 3) := by decide +kernel
theorem dX11_clear_7 : decode cX11_clear 7 = .ok (.istore_n 1, 1) := by decide +kernel
theorem dX11_clear_8 : decode cX11_clear 8 = .ok (.aload_n 0, 1) := by decide +kernel
theorem dX11_clear_9 : decode cX11_clear 9 = .ok (.getfield 10, 3) := by decide +kernel
theorem dX11_clear_12 : decode cX11_clear 12 = .ok (.iconst 0, 1) := by decide +kernel
theorem dX11_clear_13 : decode cX11_clear 13 = .ok (.putfield 117, 3) := by decide +kernel
theorem dX11_clear_16 : decode cX11_clear 16 = .ok (.iload_n 1, 1) := by decide +kernel
theorem dX11_clear_17 : decode cX11_clear 17 = .ok (.ireturn, 1) := by decide +kernel
theorem dX11_read_0 : decode cX11_read 0 = .ok (.aload_n 0, 1) := by decide +kernel
theorem dX11_read_1 : decode cX11_read 1 = .ok (.getfield 10, 3) := by decide +kernel
theorem dX11_read_4 : decode cX11_read 4 = .ok (.aload_n 0, 1) := by decide +kernel
theorem dX11_read_5 : decode cX11_read 5 = .ok (.getfield 44, 3) := by decide +kernel
theorem dX11_read_8 : decode cX11_read 8 = .ok (.invokevirtual 121, 3) := by decide +kernel
theorem dX11_read_11 : decode cX11_read 11 = .ok (.istore_n 1, 1) := by decide +kernel
theorem dX11_read_12 : decode cX11_read 12 = .ok (.iload_n 1, 1) := by decide +kernel
theorem dX11_read_13 : decode cX11_read 13 = .ok (.ifCond .lt 14, 3) := by decide +kernel
theorem dX11_read_16 : decode cX11_read 16 = .ok (.aload_n 0, 1) := by decide +kernel
theorem dX11_read_17 : decode cX11_read 17 = .ok (.getfield 40, 3) := by decide +kernel
theorem dX11_read_20 : decode cX11_read 20 = .ok (.aload_n 0, 1) := by decide +kernel
theorem dX11_read_21 : decode cX11_read 21 = .ok (.getfield 44, 3) := by decide +kernel
theorem dX11_read_24 : decode cX11_read 24 = .ok (.invokevirtual 125, 3) := by decide +kernel
theorem dX11_read_27 : decode cX11_read 27 = .ok (.iload_n 1, 1) := by decide +kernel
theorem dX11_read_28 : decode cX11_read 28 = .ok (.ireturn, 1) := by decide +kernel
theorem dX11_pass_0 : decode cX11_pass 0 = .ok (.iload_n 1, 1) := by decide +kernel
theorem dX11_pass_1 : decode cX11_pass 1 = .ok (.iconst 1, 1) := by decide +kernel
theorem dX11_pass_2 : decode cX11_pass 2 = .ok (.bipush 20, 2) := by decide +kernel
theorem dX11_pass_4 : decode cX11_pass 4 = .ok (.invokestatic 64, 3) := by decide +kernel
theorem dX11_pass_7 : decode cX11_pass 7 = .ok (.ifCond .ne 10, 3) := by decide +kernel
theorem dX11_pass_10 : decode cX11_pass 10 = .ok (.aload_n 0, 1) := by decide +kernel
theorem dX11_pass_11 : decode cX11_pass 11 = .ok (.bipush (-2), 2) := by decide +kernel
theorem dX11_pass_13 : decode cX11_pass 13 = .ok (.invokevirtual 68, 3) := by decide +kernel
theorem dX11_pass_16 : decode cX11_pass 16 = .ok (.ireturn, 1) := by decide +kernel
theorem dX11_pass_17 : decode cX11_pass 17 = .ok (.iconst 0, 1) := by decide +kernel
theorem dX11_pass_18 : decode cX11_pass 18 = .ok (.istore_n 2, 1) := by decide +kernel
theorem dX11_pass_19 : decode cX11_pass 19 = .ok (.iconst 0, 1) := by decide +kernel
theorem dX11_pass_20 : decode cX11_pass 20 = .ok (.istore_n 3, 1) := by decide +kernel
theorem dX11_pass_21 : decode cX11_pass 21 = .ok (.iload_n 3, 1) := by decide +kernel
theorem dX11_pass_22 : decode cX11_pass 22 = .ok (.iload_n 1, 1) := by decide +kernel
theorem dX11_pass_23 : decode cX11_pass 23 = .ok (.if_icmp .ge 19, 3) := by decide +kernel
theorem dX11_pass_26 : decode cX11_pass 26 = .ok (.iload_n 2, 1) := by decide +kernel
theorem dX11_pass_27 : decode cX11_pass 27 = .ok (.aload_n 0, 1) := by decide +kernel
theorem dX11_pass_28 : decode cX11_pass 28 = .ok (.getfield 40, 3) := by decide +kernel
theorem dX11_pass_31 : decode cX11_pass 31 = .ok (.invokevirtual 129, 3) := by decide +kernel
theorem dX11_pass_34 : decode cX11_pass 34 = .ok (.iadd, 1) := by decide +kernel
theorem dX11_pass_35 : decode cX11_pass 35 = .ok (.istore_n 2, 1) := by decide +kernel
theorem dX11_pass_36 : decode cX11_pass 36 = .ok (.iinc 3 1, 3) := by decide +kernel
theorem dX11_pass_39 : decode cX11_pass 39 = .ok (.goto (-18), 3) := by decide +kernel
theorem dX11_pass_42 : decode cX11_pass 42 = .ok (.iload_n 2, 1) := by decide +kernel
theorem dX11_pass_43 : decode cX11_pass 43 = .ok (.ireturn, 1) := by decide +kernel
theorem dX11_undo_0 : decode cX11_undo 0 = .ok (.aload_n 0, 1) := by decide +kernel
theorem dX11_undo_1 : decode cX11_undo 1 = .ok (.getfield 40, 3) := by decide +kernel
theorem dX11_undo_4 : decode cX11_undo 4 = .ok (.invokevirtual 132, 3) := by decide +kernel
theorem dX11_undo_7 : decode cX11_undo 7 = .ok (.ifCond .eq 7, 3) := by decide +kernel
theorem dX11_undo_10 : decode cX11_undo 10 = .ok (.iconst 1, 1) := by decide +kernel
theorem dX11_undo_11 : decode cX11_undo 11 = .ok (.goto 7, 3) := by decide +kernel
theorem dX11_undo_14 : decode cX11_undo 14 = .ok (.aload_n 0, 1) := by decide +kernel
theorem dX11_undo_15 : decode cX11_undo 15 = .ok (.invokevirtual 136, 3) := by decide +kernel
theorem dX11_undo_18 : decode cX11_undo 18 = .ok (.ireturn, 1) := by decide +kernel
theorem dX11_about_0 : decode cX11_about 0 = .ok (.aload_n 0, 1) := by decide +kernel
theorem dX11_about_1 : decode cX11_about 1 = .ok (.iload_n 1, 1) := by decide +kernel
theorem dX11_about_2 : decode cX11_about 2 = .ok (.invokevirtual 104, 3) := by decide +kernel
theorem dX11_about_5 : decode cX11_about 5 = .ok (.ifCond .ne 10, 3) := by decide +kernel
theorem dX11_about_8 : decode cX11_about 8 = .ok (.aload_n 0, 1) := by decide +kernel
theorem dX11_about_9 : decode cX11_about 9 = .ok (.bipush (-2), 2) := by decide +kernel
theorem dX11_about_11 : decode cX11_about 11 = .ok (.invokevirtual 68, 3) := by decide +kernel
theorem dX11_about_14 : decode cX11_about 14 = .ok (.ireturn, 1) := by decide +kernel
theorem dX11_about_15 : decode cX11_about 15 = .ok (.aload_n 0, 1) := by decide +kernel
theorem dX11_about_16 : decode cX11_about 16 = .ok (.getfield 40, 3) := by decide +kernel
theorem dX11_about_19 : decode cX11_about 19 = .ok (.getfield 72, 3) := by decide +kernel
theorem dX11_about_22 : decode cX11_about 22 = .ok (.iload_n 1, 1) := by decide +kernel
theorem dX11_about_23 : decode cX11_about 23 = .ok (.invokevirtual 108, 3) := by decide +kernel
theorem dX11_about_26 : decode cX11_about 26 = .ok (.astore_n 3, 1) := by decide +kernel
theorem dX11_about_27 : decode cX11_about 27 = .ok (.iload_n 2, 1) := by decide +kernel
theorem dX11_about_28 : decode cX11_about 28 = .ok (.tableswitch 52 0 3 #[32, 37, 42, 47], 32) := by decide +kernel
theorem dX11_about_60 : decode cX11_about 60 = .ok (.aload_n 3, 1) := by decide +kernel
theorem dX11_about_61 : decode cX11_about 61 = .ok (.getfield 139, 3) := by decide +kernel
theorem dX11_about_64 : decode cX11_about 64 = .ok (.ireturn, 1) := by decide +kernel
theorem dX11_about_65 : decode cX11_about 65 = .ok (.aload_n 3, 1) := by decide +kernel
theorem dX11_about_66 : decode cX11_about 66 = .ok (.getfield 142, 3) := by decide +kernel
theorem dX11_about_69 : decode cX11_about 69 = .ok (.ireturn, 1) := by decide +kernel
theorem dX11_about_70 : decode cX11_about 70 = .ok (.aload_n 3, 1) := by decide +kernel
theorem dX11_about_71 : decode cX11_about 71 = .ok (.getfield 145, 3) := by decide +kernel
theorem dX11_about_74 : decode cX11_about 74 = .ok (.ireturn, 1) := by decide +kernel
theorem dX11_about_75 : decode cX11_about 75 = .ok (.aload_n 3, 1) := by decide +kernel
theorem dX11_about_76 : decode cX11_about 76 = .ok (.getfield 112, 3) := by decide +kernel
theorem dX11_about_79 : decode cX11_about 79 = .ok (.ireturn, 1) := by decide +kernel
theorem dX11_about_80 : decode cX11_about 80 = .ok (.aload_n 0, 1) := by decide +kernel
theorem dX11_about_81 : decode cX11_about 81 = .ok (.bipush (-2), 2) := by decide +kernel
theorem dX11_about_83 : decode cX11_about 83 = .ok (.invokevirtual 68, 3) := by decide +kernel
theorem dX11_about_86 : decode cX11_about 86 = .ok (.ireturn, 1) := by decide +kernel
theorem dX11_eats_0 : decode cX11_eats 0 = .ok (.aload_n 0, 1) := by decide +kernel
theorem dX11_eats_1 : decode cX11_eats 1 = .ok (.iload_n 1, 1) := by decide +kernel
theorem dX11_eats_2 : decode cX11_eats 2 = .ok (.invokevirtual 104, 3) := by decide +kernel
theorem dX11_eats_5 : decode cX11_eats 5 = .ok (.ifCond .eq 14, 3) := by decide +kernel
theorem dX11_eats_8 : decode cX11_eats 8 = .ok (.iload_n 2, 1) := by decide +kernel
theorem dX11_eats_9 : decode cX11_eats 9 = .ok (.iconst 0, 1) := by decide +kernel
theorem dX11_eats_10 : decode cX11_eats 10 = .ok (.sipush 9999, 3) := by decide +kernel
theorem dX11_eats_13 : decode cX11_eats 13 = .ok (.invokestatic 64, 3) := by decide +kernel
theorem dX11_eats_16 : decode cX11_eats 16 = .ok (.ifCond .ne 10, 3) := by decide +kernel
theorem dX11_eats_19 : decode cX11_eats 19 = .ok (.aload_n 0, 1) := by decide +kernel
theorem dX11_eats_20 : decode cX11_eats 20 = .ok (.bipush (-2), 2) := by decide +kernel
theorem dX11_eats_22 : decode cX11_eats 22 = .ok (.invokevirtual 68, 3) := by decide +kernel
theorem dX11_eats_25 : decode cX11_eats 25 = .ok (.ireturn, 1) := by decide +kernel
theorem dX11_eats_26 : decode cX11_eats 26 = .ok (.aload_n 0, 1) := by decide +kernel
theorem dX11_eats_27 : decode cX11_eats 27 = .ok (.getfield 40, 3) := by decide +kernel
theorem dX11_eats_30 : decode cX11_eats 30 = .ok (.getfield 72, 3) := by decide +kernel
theorem dX11_eats_33 : decode cX11_eats 33 = .ok (.iload_n 1, 1) := by decide +kernel
theorem dX11_eats_34 : decode cX11_eats 34 = .ok (.invokevirtual 108, 3) := by decide +kernel
theorem dX11_eats_37 : decode cX11_eats 37 = .ok (.aload_n 0, 1) := by decide +kernel
theorem dX11_eats_38 : decode cX11_eats 38 = .ok (.getfield 40, 3) := by decide +kernel
theorem dX11_eats_41 : decode cX11_eats 41 = .ok (.getfield 72, 3) := by decide +kernel
theorem dX11_eats_44 : decode cX11_eats 44 = .ok (.iload_n 2, 1) := by decide +kernel
theorem dX11_eats_45 : decode cX11_eats 45 = .ok (.invokevirtual 148, 3) := by decide +kernel
theorem dX11_eats_48 : decode cX11_eats 48 = .ok (.invokevirtual 151, 3) := by decide +kernel
theorem dX11_eats_51 : decode cX11_eats 51 = .ok (.ireturn, 1) := by decide +kernel
theorem dX11_fields_0 : decode cX11_fields 0 = .ok (.aload_n 0, 1) := by decide +kernel
theorem dX11_fields_1 : decode cX11_fields 1 = .ok (.getfield 40, 3) := by decide +kernel
theorem dX11_fields_4 : decode cX11_fields 4 = .ok (.getfield 72, 3) := by decide +kernel
theorem dX11_fields_7 : decode cX11_fields 7 = .ok (.invokevirtual 155, 3) := by decide +kernel
theorem dX11_fields_10 : decode cX11_fields 10 = .ok (.ireturn, 1) := by decide +kernel
theorem dX11_plan_0 : decode cX11_plan 0 = .ok (.iload_n 1, 1) := by decide +kernel
theorem dX11_plan_1 : decode cX11_plan 1 = .ok (.iconst 0, 1) := by decide +kernel
theorem dX11_plan_2 : decode cX11_plan 2 = .ok (.iconst 5, 1) := by decide +kernel
theorem dX11_plan_3 : decode cX11_plan 3 = .ok (.invokestatic 64, 3) := by decide +kernel
theorem dX11_plan_6 : decode cX11_plan 6 = .ok (.ifCond .eq 8, 3) := by decide +kernel
theorem dX11_plan_9 : decode cX11_plan 9 = .ok (.iload_n 2, 1) := by decide +kernel
theorem dX11_plan_10 : decode cX11_plan 10 = .ok (.iconst (-1), 1) := by decide +kernel
theorem dX11_plan_11 : decode cX11_plan 11 = .ok (.if_icmp .ge 10, 3) := by decide +kernel
theorem dX11_plan_14 : decode cX11_plan 14 = .ok (.aload_n 0, 1) := by decide +kernel
theorem dX11_plan_15 : decode cX11_plan 15 = .ok (.bipush (-10), 2) := by decide +kernel
theorem dX11_plan_17 : decode cX11_plan 17 = .ok (.invokevirtual 68, 3) := by decide +kernel
theorem dX11_plan_20 : decode cX11_plan 20 = .ok (.ireturn, 1) := by decide +kernel
theorem dX11_plan_21 : decode cX11_plan 21 = .ok (.aload_n 0, 1) := by decide +kernel
theorem dX11_plan_22 : decode cX11_plan 22 = .ok (.getfield 56, 3) := by decide +kernel
theorem dX11_plan_25 : decode cX11_plan 25 = .ok (.aload_n 0, 1) := by decide +kernel
theorem dX11_plan_26 : decode cX11_plan 26 = .ok (.getfield 40, 3) := by decide +kernel
theorem dX11_plan_29 : decode cX11_plan 29 = .ok (.getfield 72, 3) := by decide +kernel
theorem dX11_plan_32 : decode cX11_plan 32 = .ok (.iload_n 1, 1) := by decide +kernel
theorem dX11_plan_33 : decode cX11_plan 33 = .ok (.invokevirtual 158, 3) := by decide +kernel
theorem dX11_plan_36 : decode cX11_plan 36 = .ok (.istore_n 3, 1) := by decide +kernel
theorem dX11_plan_37 : decode cX11_plan 37 = .ok (.iload_n 3, 1) := by decide +kernel
theorem dX11_plan_38 : decode cX11_plan 38 = .ok (.iconst (-1), 1) := by decide +kernel
theorem dX11_plan_39 : decode cX11_plan 39 = .ok (.if_icmp .eq 8, 3) := by decide +kernel
theorem dX11_plan_42 : decode cX11_plan 42 = .ok (.iload_n 2, 1) := by decide +kernel
theorem dX11_plan_43 : decode cX11_plan 43 = .ok (.iconst (-1), 1) := by decide +kernel
theorem dX11_plan_44 : decode cX11_plan 44 = .ok (.if_icmp .ne 5, 3) := by decide +kernel
theorem dX11_plan_47 : decode cX11_plan 47 = .ok (.iload_n 3, 1) := by decide +kernel
theorem dX11_plan_48 : decode cX11_plan 48 = .ok (.ireturn, 1) := by decide +kernel
theorem dX11_plan_49 : decode cX11_plan 49 = .ok (.iload_n 2, 1) := by decide +kernel
theorem dX11_plan_50 : decode cX11_plan 50 = .ok (.iload_n 1, 1) := by decide +kernel
theorem dX11_plan_51 : decode cX11_plan 51 = .ok (.if_icmp .ge 14, 3) := by decide +kernel
theorem dX11_plan_54 : decode cX11_plan 54 = .ok (.aload_n 0, 1) := by decide +kernel
theorem dX11_plan_55 : decode cX11_plan 55 = .ok (.getfield 56, 3) := by decide +kernel
theorem dX11_plan_58 : decode cX11_plan 58 = .ok (.iload_n 2, 1) := by decide +kernel
theorem dX11_plan_59 : decode cX11_plan 59 = .ok (.invokevirtual 162, 3) := by decide +kernel
theorem dX11_plan_62 : decode cX11_plan 62 = .ok (.goto 5, 3) := by decide +kernel
theorem dX11_plan_65 : decode cX11_plan 65 = .ok (.bipush (-5), 2) := by decide +kernel
theorem dX11_plan_67 : decode cX11_plan 67 = .ok (.ireturn, 1) := by decide +kernel
theorem dX11_want_0 : decode cX11_want 0 = .ok (.iload_n 1, 1) := by decide +kernel
theorem dX11_want_1 : decode cX11_want 1 = .ok (.iconst 0, 1) := by decide +kernel
theorem dX11_want_2 : decode cX11_want 2 = .ok (.sipush 200, 3) := by decide +kernel
theorem dX11_want_5 : decode cX11_want 5 = .ok (.invokestatic 64, 3) := by decide +kernel
theorem dX11_want_8 : decode cX11_want 8 = .ok (.ifCond .ne 10, 3) := by decide +kernel
theorem dX11_want_11 : decode cX11_want 11 = .ok (.aload_n 0, 1) := by decide +kernel
theorem dX11_want_12 : decode cX11_want 12 = .ok (.bipush (-2), 2) := by decide +kernel
theorem dX11_want_14 : decode cX11_want 14 = .ok (.invokevirtual 68, 3) := by decide +kernel
theorem dX11_want_17 : decode cX11_want 17 = .ok (.ireturn, 1) := by decide +kernel
theorem dX11_want_18 : decode cX11_want 18 = .ok (.aload_n 0, 1) := by decide +kernel
theorem dX11_want_19 : decode cX11_want 19 = .ok (.getfield 56, 3) := by decide +kernel
theorem dX11_want_22 : decode cX11_want 22 = .ok (.aload_n 0, 1) := by decide +kernel
theorem dX11_want_23 : decode cX11_want 23 = .ok (.getfield 40, 3) := by decide +kernel
theorem dX11_want_26 : decode cX11_want 26 = .ok (.getfield 72, 3) := by decide +kernel
theorem dX11_want_29 : decode cX11_want 29 = .ok (.iload_n 1, 1) := by decide +kernel
theorem dX11_want_30 : decode cX11_want 30 = .ok (.aload_n 0, 1) := by decide +kernel
theorem dX11_want_31 : decode cX11_want 31 = .ok (.getfield 40, 3) := by decide +kernel
theorem dX11_want_34 : decode cX11_want 34 = .ok (.getfield 72, 3) := by decide +kernel
theorem dX11_want_37 : decode cX11_want 37 = .ok (.getfield 165, 3) := by decide +kernel
theorem dX11_want_40 : decode cX11_want 40 = .ok (.invokevirtual 168, 3) := by decide +kernel
theorem dX11_want_43 : decode cX11_want 43 = .ok (.ireturn, 1) := by decide +kernel
theorem dX11_held_0 : decode cX11_held 0 = .ok (.iload_n 1, 1) := by decide +kernel
theorem dX11_held_1 : decode cX11_held 1 = .ok (.iconst 0, 1) := by decide +kernel
theorem dX11_held_2 : decode cX11_held 2 = .ok (.sipush 200, 3) := by decide +kernel
theorem dX11_held_5 : decode cX11_held 5 = .ok (.invokestatic 64, 3) := by decide +kernel
theorem dX11_held_8 : decode cX11_held 8 = .ok (.ifCond .ne 10, 3) := by decide +kernel
theorem dX11_held_11 : decode cX11_held 11 = .ok (.aload_n 0, 1) := by decide +kernel
theorem dX11_held_12 : decode cX11_held 12 = .ok (.bipush (-10), 2) := by decide +kernel
theorem dX11_held_14 : decode cX11_held 14 = .ok (.invokevirtual 68, 3) := by decide +kernel
theorem dX11_held_17 : decode cX11_held 17 = .ok (.ireturn, 1) := by decide +kernel
theorem dX11_held_18 : decode cX11_held 18 = .ok (.aload_n 0, 1) := by decide +kernel
theorem dX11_held_19 : decode cX11_held 19 = .ok (.getfield 56, 3) := by decide +kernel
theorem dX11_held_22 : decode cX11_held 22 = .ok (.aload_n 0, 1) := by decide +kernel
theorem dX11_held_23 : decode cX11_held 23 = .ok (.getfield 40, 3) := by decide +kernel
theorem dX11_held_26 : decode cX11_held 26 = .ok (.getfield 72, 3) := by decide +kernel
theorem dX11_held_29 : decode cX11_held 29 = .ok (.iload_n 1, 1) := by decide +kernel
theorem dX11_held_30 : decode cX11_held 30 = .ok (.invokevirtual 172, 3) := by decide +kernel
theorem dX11_held_33 : decode cX11_held 33 = .ok (.ireturn, 1) := by decide +kernel
theorem dX11_chance_0 : decode cX11_chance 0 = .ok (.iload_n 1, 1) := by decide +kernel
theorem dX11_chance_1 : decode cX11_chance 1 = .ok (.iconst 0, 1) := by decide +kernel
theorem dX11_chance_2 : decode cX11_chance 2 = .ok (.bipush 60, 2) := by decide +kernel
theorem dX11_chance_4 : decode cX11_chance 4 = .ok (.invokestatic 64, 3) := by decide +kernel
theorem dX11_chance_7 : decode cX11_chance 7 = .ok (.ifCond .eq 13, 3) := by decide +kernel
theorem dX11_chance_10 : decode cX11_chance 10 = .ok (.iload_n 2, 1) := by decide +kernel
theorem dX11_chance_11 : decode cX11_chance 11 = .ok (.iconst 0, 1) := by decide +kernel
theorem dX11_chance_12 : decode cX11_chance 12 = .ok (.bipush 10, 2) := by decide +kernel
theorem dX11_chance_14 : decode cX11_chance 14 = .ok (.invokestatic 64, 3) := by decide +kernel
theorem dX11_chance_17 : decode cX11_chance 17 = .ok (.ifCond .ne 10, 3) := by decide +kernel
theorem dX11_chance_20 : decode cX11_chance 20 = .ok (.aload_n 0, 1) := by decide +kernel
theorem dX11_chance_21 : decode cX11_chance 21 = .ok (.bipush (-2), 2) := by decide +kernel
theorem dX11_chance_23 : decode cX11_chance 23 = .ok (.invokevirtual 68, 3) := by decide +kernel
theorem dX11_chance_26 : decode cX11_chance 26 = .ok (.ireturn, 1) := by decide +kernel
theorem dX11_chance_27 : decode cX11_chance 27 = .ok (.aload_n 0, 1) := by decide +kernel
theorem dX11_chance_28 : decode cX11_chance 28 = .ok (.getfield 40, 3) := by decide +kernel
theorem dX11_chance_31 : decode cX11_chance 31 = .ok (.getfield 72, 3) := by decide +kernel
theorem dX11_chance_34 : decode cX11_chance 34 = .ok (.iload_n 1, 1) := by decide +kernel
theorem dX11_chance_35 : decode cX11_chance 35 = .ok (.invokevirtual 175, 3) := by decide +kernel
theorem dX11_chance_38 : decode cX11_chance 38 = .ok (.istore_n 3, 1) := by decide +kernel
theorem dX11_chance_39 : decode cX11_chance 39 = .ok (.iload_n 3, 1) := by decide +kernel
