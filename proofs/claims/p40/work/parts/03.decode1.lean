theorem dX5_goBy_19 : decode cX5_goBy 19 = .ok (.getfield 37, 3) := by decide +kernel
theorem dX5_goBy_22 : decode cX5_goBy 22 = .ok (.iconst 1, 1) := by decide +kernel
theorem dX5_goBy_23 : decode cX5_goBy 23 = .ok (.iadd, 1) := by decide +kernel
theorem dX5_goBy_24 : decode cX5_goBy 24 = .ok (.invokestatic 59, 3) := by decide +kernel
theorem dX5_goBy_27 : decode cX5_goBy 27 = .ok (.putfield 37, 3) := by decide +kernel
theorem dX5_goBy_30 : decode cX5_goBy 30 = .ok (.aload_n 0, 1) := by decide +kernel
theorem dX5_goBy_31 : decode cX5_goBy 31 = .ok (.getfield 20, 3) := by decide +kernel
theorem dX5_goBy_34 : decode cX5_goBy 34 = .ok (.aload_n 0, 1) := by decide +kernel
theorem dX5_goBy_35 : decode cX5_goBy 35 = .ok (.getfield 48, 3) := by decide +kernel
theorem dX5_goBy_38 : decode cX5_goBy 38 = .ok (.invokestatic 51, 3) := by decide +kernel
theorem dX5_goBy_41 : decode cX5_goBy 41 = .ok (.astore_n 1, 1) := by decide +kernel
theorem dX5_goBy_42 : decode cX5_goBy 42 = .ok (.aload_n 1, 1) := by decide +kernel
theorem dX5_goBy_43 : decode cX5_goBy 43 = .ok (.ifnull 11, 3) := by decide +kernel
theorem dX5_goBy_46 : decode cX5_goBy 46 = .ok (.aload_n 1, 1) := by decide +kernel
theorem dX5_goBy_47 : decode cX5_goBy 47 = .ok (.aload_n 0, 1) := by decide +kernel
theorem dX5_goBy_48 : decode cX5_goBy 48 = .ok (.getfield 27, 3) := by decide +kernel
theorem dX5_goBy_51 : decode cX5_goBy 51 = .ok (.invokevirtual 41, 3) := by decide +kernel
theorem dX5_goBy_54 : decode cX5_goBy 54 = .ok (.aload_n 0, 1) := by decide +kernel
theorem dX5_goBy_55 : decode cX5_goBy 55 = .ok (.getfield 27, 3) := by decide +kernel
theorem dX5_goBy_58 : decode cX5_goBy 58 = .ok (.iconst 0, 1) := by decide +kernel
theorem dX5_goBy_59 : decode cX5_goBy 59 = .ok (.invokevirtual 64, 3) := by decide +kernel
theorem dX5_goBy_62 : decode cX5_goBy 62 = .ok (.ireturn, 1) := by decide +kernel
theorem dX5_goBack_0 : decode cX5_goBack 0 = .ok (.aload_n 0, 1) := by decide +kernel
theorem dX5_goBack_1 : decode cX5_goBack 1 = .ok (.getfield 20, 3) := by decide +kernel
theorem dX5_goBack_4 : decode cX5_goBack 4 = .ok (.aload_n 0, 1) := by decide +kernel
theorem dX5_goBack_5 : decode cX5_goBack 5 = .ok (.getfield 48, 3) := by decide +kernel
theorem dX5_goBack_8 : decode cX5_goBack 8 = .ok (.invokestatic 51, 3) := by decide +kernel
theorem dX5_goBack_11 : decode cX5_goBack 11 = .ok (.astore_n 1, 1) := by decide +kernel
theorem dX5_goBack_12 : decode cX5_goBack 12 = .ok (.aload_n 0, 1) := by decide +kernel
theorem dX5_goBack_13 : decode cX5_goBack 13 = .ok (.getfield 37, 3) := by decide +kernel
theorem dX5_goBack_16 : decode cX5_goBack 16 = .ok (.ifCond .eq 7, 3) := by decide +kernel
theorem dX5_goBack_19 : decode cX5_goBack 19 = .ok (.aload_n 1, 1) := by decide +kernel
theorem dX5_goBack_20 : decode cX5_goBack 20 = .ok (.ifnonnull 5, 3) := by decide +kernel
theorem dX5_goBack_23 : decode cX5_goBack 23 = .ok (.iconst 0, 1) := by decide +kernel
theorem dX5_goBack_24 : decode cX5_goBack 24 = .ok (.ireturn, 1) := by decide +kernel
theorem dX5_goBack_25 : decode cX5_goBack 25 = .ok (.aload_n 0, 1) := by decide +kernel
theorem dX5_goBack_26 : decode cX5_goBack 26 = .ok (.getfield 27, 3) := by decide +kernel
theorem dX5_goBack_29 : decode cX5_goBack 29 = .ok (.aload_n 1, 1) := by decide +kernel
theorem dX5_goBack_30 : decode cX5_goBack 30 = .ok (.invokevirtual 68, 3) := by decide +kernel
theorem dX5_goBack_33 : decode cX5_goBack 33 = .ok (.aload_n 0, 1) := by decide +kernel
theorem dX5_goBack_34 : decode cX5_goBack 34 = .ok (.aload_n 0, 1) := by decide +kernel
theorem dX5_goBack_35 : decode cX5_goBack 35 = .ok (.getfield 48, 3) := by decide +kernel
theorem dX5_goBack_38 : decode cX5_goBack 38 = .ok (.bipush 6, 2) := by decide +kernel
theorem dX5_goBack_40 : decode cX5_goBack 40 = .ok (.iadd, 1) := by decide +kernel
theorem dX5_goBack_41 : decode cX5_goBack 41 = .ok (.iconst 1, 1) := by decide +kernel
theorem dX5_goBack_42 : decode cX5_goBack 42 = .ok (.isub, 1) := by decide +kernel
theorem dX5_goBack_43 : decode cX5_goBack 43 = .ok (.bipush 6, 2) := by decide +kernel
theorem dX5_goBack_45 : decode cX5_goBack 45 = .ok (.invokestatic 55, 3) := by decide +kernel
theorem dX5_goBack_48 : decode cX5_goBack 48 = .ok (.putfield 48, 3) := by decide +kernel
theorem dX5_goBack_51 : decode cX5_goBack 51 = .ok (.aload_n 0, 1) := by decide +kernel
theorem dX5_goBack_52 : decode cX5_goBack 52 = .ok (.dup, 1) := by decide +kernel
theorem dX5_goBack_53 : decode cX5_goBack 53 = .ok (.getfield 37, 3) := by decide +kernel
theorem dX5_goBack_56 : decode cX5_goBack 56 = .ok (.iconst 1, 1) := by decide +kernel
theorem dX5_goBack_57 : decode cX5_goBack 57 = .ok (.isub, 1) := by decide +kernel
theorem dX5_goBack_58 : decode cX5_goBack 58 = .ok (.putfield 37, 3) := by decide +kernel
theorem dX5_goBack_61 : decode cX5_goBack 61 = .ok (.iconst 1, 1) := by decide +kernel
theorem dX5_goBack_62 : decode cX5_goBack 62 = .ok (.ireturn, 1) := by decide +kernel
theorem dX6_init_0 : decode cX6_init 0 = .ok (.aload_n 0, 1) := by decide +kernel
theorem dX6_init_1 : decode cX6_init 1 = .ok (.invokespecial 1, 3) := by decide +kernel
theorem dX6_init_4 : decode cX6_init 4 = .ok (.return_, 1) := by decide +kernel
theorem dX6_makes_0 : decode cX6_makes 0 = .ok (.aload_n 0, 1) := by decide +kernel
theorem dX6_makes_1 : decode cX6_makes 1 = .ok (.invokespecial 7, 3) := by decide +kernel
theorem dX6_makes_4 : decode cX6_makes 4 = .ok (.iconst 2, 1) := by decide +kernel
theorem dX6_makes_5 : decode cX6_makes 5 = .ok (.iadd, 1) := by decide +kernel
theorem dX6_makes_6 : decode cX6_makes 6 = .ok (.ireturn, 1) := by decide +kernel
theorem dX6_meal_0 : decode cX6_meal 0 = .ok (.aload_n 0, 1) := by decide +kernel
theorem dX6_meal_1 : decode cX6_meal 1 = .ok (.iload_n 1, 1) := by decide +kernel
theorem dX6_meal_2 : decode cX6_meal 2 = .ok (.iload_n 2, 1) := by decide +kernel
theorem dX6_meal_3 : decode cX6_meal 3 = .ok (.invokespecial 11, 3) := by decide +kernel
theorem dX6_meal_6 : decode cX6_meal 6 = .ok (.iconst 1, 1) := by decide +kernel
theorem dX6_meal_7 : decode cX6_meal 7 = .ok (.iadd, 1) := by decide +kernel
theorem dX6_meal_8 : decode cX6_meal 8 = .ok (.ireturn, 1) := by decide +kernel
theorem dX7_init_0 : decode cX7_init 0 = .ok (.aload_n 0, 1) := by decide +kernel
theorem dX7_init_1 : decode cX7_init 1 = .ok (.invokespecial 3, 3) := by decide +kernel
theorem dX7_init_4 : decode cX7_init 4 = .ok (.aload_n 0, 1) := by decide +kernel
theorem dX7_init_5 : decode cX7_init 5 = .ok (.sipush 150, 3) := by decide +kernel
theorem dX7_init_8 : decode cX7_init 8 = .ok (.newarray .int, 2) := by decide +kernel
theorem dX7_init_10 : decode cX7_init 10 = .ok (.putfield 9, 3) := by decide +kernel
theorem dX7_init_13 : decode cX7_init 13 = .ok (.aload_n 0, 1) := by decide +kernel
theorem dX7_init_14 : decode cX7_init 14 = .ok (.iconst 3, 1) := by decide +kernel
theorem dX7_init_15 : decode cX7_init 15 = .ok (.newarray .int, 2) := by decide +kernel
theorem dX7_init_17 : decode cX7_init 17 = .ok (.putfield 15, 3) := by decide +kernel
theorem dX7_init_20 : decode cX7_init 20 = .ok (.return_, 1) := by decide +kernel
theorem dX8_init_0 : decode cX8_init 0 = .ok (.aload_n 0, 1) := by decide +kernel
theorem dX8_init_1 : decode cX8_init 1 = .ok (.invokespecial 1, 3) := by decide +kernel
theorem dX8_init_4 : decode cX8_init 4 = .ok (.return_, 1) := by decide +kernel
theorem dX8_tends_0 : decode cX8_tends 0 = .ok (.aload_n 0, 1) := by decide +kernel
theorem dX8_tends_1 : decode cX8_tends 1 = .ok (.invokespecial 7, 3) := by decide +kernel
theorem dX8_tends_4 : decode cX8_tends 4 = .ok (.iconst 2, 1) := by decide +kernel
theorem dX8_tends_5 : decode cX8_tends 5 = .ok (.idiv, 1) := by decide +kernel
theorem dX8_tends_6 : decode cX8_tends 6 = .ok (.ireturn, 1) := by decide +kernel
theorem dX8_forgets_0 : decode cX8_forgets 0 = .ok (.iconst 0, 1) := by decide +kernel
theorem dX8_forgets_1 : decode cX8_forgets 1 = .ok (.ireturn, 1) := by decide +kernel
theorem dX9_init_0 : decode cX9_init 0 = .ok (.aload_n 0, 1) := by decide +kernel
theorem dX9_init_1 : decode cX9_init 1 = .ok (.invokespecial 1, 3) := by decide +kernel
theorem dX9_init_4 : decode cX9_init 4 = .ok (.return_, 1) := by decide +kernel
theorem dX9_meal_0 : decode cX9_meal 0 = .ok (.aload_n 0, 1) := by decide +kernel
theorem dX9_meal_1 : decode cX9_meal 1 = .ok (.iload_n 1, 1) := by decide +kernel
theorem dX9_meal_2 : decode cX9_meal 2 = .ok (.iload_n 2, 1) := by decide +kernel
theorem dX9_meal_3 : decode cX9_meal 3 = .ok (.invokespecial 7, 3) := by decide +kernel
theorem dX9_meal_6 : decode cX9_meal 6 = .ok (.istore_n 3, 1) := by decide +kernel
theorem dX9_meal_7 : decode cX9_meal 7 = .ok (.iload_n 2, 1) := by decide +kernel
theorem dX9_meal_8 : decode cX9_meal 8 = .ok (.ifCond .eq 7, 3) := by decide +kernel
theorem dX9_meal_11 : decode cX9_meal 11 = .ok (.iload_n 3, 1) := by decide +kernel
theorem dX9_meal_12 : decode cX9_meal 12 = .ok (.goto 8, 3) := by decide +kernel
theorem dX9_meal_15 : decode cX9_meal 15 = .ok (.iload_n 3, 1) := by decide +kernel
theorem dX9_meal_16 : decode cX9_meal 16 = .ok (.iconst 1, 1) := by decide +kernel
theorem dX9_meal_17 : decode cX9_meal 17 = .ok (.iadd, 1) := by decide +kernel
theorem dX9_meal_18 : decode cX9_meal 18 = .ok (.iconst 2, 1) := by decide +kernel
theorem dX9_meal_19 : decode cX9_meal 19 = .ok (.idiv, 1) := by decide +kernel
theorem dX9_meal_20 : decode cX9_meal 20 = .ok (.ireturn, 1) := by decide +kernel
theorem dX9_rests_0 : decode cX9_rests 0 = .ok (.iload_n 1, 1) := by decide +kernel
theorem dX9_rests_1 : decode cX9_rests 1 = .ok (.iconst 2, 1) := by decide +kernel
theorem dX9_rests_2 : decode cX9_rests 2 = .ok (.irem, 1) := by decide +kernel
theorem dX9_rests_3 : decode cX9_rests 3 = .ok (.ifCond .eq 7, 3) := by decide +kernel
theorem dX9_rests_6 : decode cX9_rests 6 = .ok (.iconst 1, 1) := by decide +kernel
theorem dX9_rests_7 : decode cX9_rests 7 = .ok (.goto 4, 3) := by decide +kernel
theorem dX9_rests_10 : decode cX9_rests 10 = .ok (.iconst 0, 1) := by decide +kernel
theorem dX9_rests_11 : decode cX9_rests 11 = .ok (.ireturn, 1) := by decide +kernel
theorem dX10_init_0 : decode cX10_init 0 = .ok (.aload_n 0, 1) := by decide +kernel
theorem dX10_init_1 : decode cX10_init 1 = .ok (.invokespecial 3, 3) := by decide +kernel
theorem dX10_init_4 : decode cX10_init 4 = .ok (.aload_n 0, 1) := by decide +kernel
theorem dX10_init_5 : decode cX10_init 5 = .ok (.bipush 8, 2) := by decide +kernel
theorem dX10_init_7 : decode cX10_init 7 = .ok (.anewarray 9, 3) := by decide +kernel
theorem dX10_init_10 : decode cX10_init 10 = .ok (.putfield 11, 3) := by decide +kernel
theorem dX10_init_13 : decode cX10_init 13 = .ok (.aload_n 0, 1) := by decide +kernel
theorem dX10_init_14 : decode cX10_init 14 = .ok (.iconst 5, 1) := by decide +kernel
theorem dX10_init_15 : decode cX10_init 15 = .ok (.newarray .int, 2) := by decide +kernel
theorem dX10_init_17 : decode cX10_init 17 = .ok (.putfield 17, 3) := by decide +kernel
theorem dX10_init_20 : decode cX10_init 20 = .ok (.aload_n 0, 1) := by decide +kernel
theorem dX10_init_21 : decode cX10_init 21 = .ok (.iconst 5, 1) := by decide +kernel
theorem dX10_init_22 : decode cX10_init 22 = .ok (.newarray .int, 2) := by decide +kernel
theorem dX10_init_24 : decode cX10_init 24 = .ok (.putfield 21, 3) := by decide +kernel
theorem dX10_init_27 : decode cX10_init 27 = .ok (.aload_n 0, 1) := by decide +kernel
theorem dX10_init_28 : decode cX10_init 28 = .ok (.bipush 64, 2) := by decide +kernel
theorem dX10_init_30 : decode cX10_init 30 = .ok (.newarray .int, 2) := by decide +kernel
theorem dX10_init_32 : decode cX10_init 32 = .ok (.putfield 24, 3) := by decide +kernel
theorem dX10_init_35 : decode cX10_init 35 = .ok (.aload_n 0, 1) := by decide +kernel
theorem dX10_init_36 : decode cX10_init 36 = .ok (.bipush 64, 2) := by decide +kernel
theorem dX10_init_38 : decode cX10_init 38 = .ok (.newarray .int, 2) := by decide +kernel
theorem dX10_init_40 : decode cX10_init 40 = .ok (.putfield 27, 3) := by decide +kernel
theorem dX10_init_43 : decode cX10_init 43 = .ok (.aload_n 0, 1) := by decide +kernel
theorem dX10_init_44 : decode cX10_init 44 = .ok (.new 9, 3) := by decide +kernel
theorem dX10_init_47 : decode cX10_init 47 = .ok (.dup, 1) := by decide +kernel
theorem dX10_init_48 : decode cX10_init 48 = .ok (.aload_n 1, 1) := by decide +kernel
theorem dX10_init_49 : decode cX10_init 49 = .ok (.invokespecial 30, 3) := by decide +kernel
theorem dX10_init_52 : decode cX10_init 52 = .ok (.putfield 33, 3) := by decide +kernel
theorem dX10_init_55 : decode cX10_init 55 = .ok (.iconst 0, 1) := by decide +kernel
theorem dX10_init_56 : decode cX10_init 56 = .ok (.istore_n 2, 1) := by decide +kernel
theorem dX10_init_57 : decode cX10_init 57 = .ok (.iload_n 2, 1) := by decide +kernel
theorem dX10_init_58 : decode cX10_init 58 = .ok (.aload_n 0, 1) := by decide +kernel
theorem dX10_init_59 : decode cX10_init 59 = .ok (.getfield 11, 3) := by decide +kernel
theorem dX10_init_62 : decode cX10_init 62 = .ok (.arraylength, 1) := by decide +kernel
theorem dX10_init_63 : decode cX10_init 63 = .ok (.if_icmp .ge 23, 3) := by decide +kernel
theorem dX10_init_66 : decode cX10_init 66 = .ok (.aload_n 0, 1) := by decide +kernel
theorem dX10_init_67 : decode cX10_init 67 = .ok (.getfield 11, 3) := by decide +kernel
theorem dX10_init_70 : decode cX10_init 70 = .ok (.iload_n 2, 1) := by decide +kernel
theorem dX10_init_71 : decode cX10_init 71 = .ok (.new 9, 3) := by decide +kernel
theorem dX10_init_74 : decode cX10_init 74 = .ok (.dup, 1) := by decide +kernel
theorem dX10_init_75 : decode cX10_init 75 = .ok (.aload_n 1, 1) := by decide +kernel
theorem dX10_init_76 : decode cX10_init 76 = .ok (.invokespecial 30, 3) := by decide +kernel
theorem dX10_init_79 : decode cX10_init 79 = .ok (.aastore, 1) := by decide +kernel
theorem dX10_init_80 : decode cX10_init 80 = .ok (.iinc 2 1, 3) := by decide +kernel
theorem dX10_init_83 : decode cX10_init 83 = .ok (.goto (-26), 3) := by decide +kernel
theorem dX10_init_86 : decode cX10_init 86 = .ok (.return_, 1) := by decide +kernel
theorem dX10_bestPlan_0 : decode cX10_bestPlan 0 = .ok (.aload_n 0, 1) := by decide +kernel
theorem dX10_bestPlan_1 : decode cX10_bestPlan 1 = .ok (.iconst (-1), 1) := by decide +kernel
theorem dX10_bestPlan_2 : decode cX10_bestPlan 2 = .ok (.putfield 37, 3) := by decide +kernel
theorem dX10_bestPlan_5 : decode cX10_bestPlan 5 = .ok (.aload_n 0, 1) := by decide +kernel
theorem dX10_bestPlan_6 : decode cX10_bestPlan 6 = .ok (.aload_n 1, 1) := by decide +kernel
theorem dX10_bestPlan_7 : decode cX10_bestPlan 7 = .ok (.iconst 0, 1) := by decide +kernel
theorem dX10_bestPlan_8 : decode cX10_bestPlan 8 = .ok (.iload_n 2, 1) := by decide +kernel
theorem dX10_bestPlan_9 : decode cX10_bestPlan 9 = .ok (.invokestatic 41, 3) := by decide +kernel
theorem dX10_bestPlan_12 : decode cX10_bestPlan 12 = .ok (.aload_n 0, 1) := by decide +kernel
theorem dX10_bestPlan_13 : decode cX10_bestPlan 13 = .ok (.getfield 37, 3) := by decide +kernel
theorem dX10_bestPlan_16 : decode cX10_bestPlan 16 = .ok (.ireturn, 1) := by decide +kernel
theorem dX10_plannedJob_0 : decode cX10_plannedJob 0 = .ok (.aload_n 0, 1) := by decide +kernel
theorem dX10_plannedJob_1 : decode cX10_plannedJob 1 = .ok (.getfield 21, 3) := by decide +kernel
theorem dX10_plannedJob_4 : decode cX10_plannedJob 4 = .ok (.iload_n 1, 1) := by decide +kernel
theorem dX10_plannedJob_5 : decode cX10_plannedJob 5 = .ok (.invokestatic 45, 3) := by decide +kernel
theorem dX10_plannedJob_8 : decode cX10_plannedJob 8 = .ok (.ireturn, 1) := by decide +kernel
theorem dX10_planFrom_0 : decode cX10_planFrom 0 = .ok (.iload_n 2, 1) := by decide +kernel
theorem dX10_planFrom_1 : decode cX10_planFrom 1 = .ok (.iload_n 3, 1) := by decide +kernel
theorem dX10_planFrom_2 : decode cX10_planFrom 2 = .ok (.if_icmp .lt 12, 3) := by decide +kernel
theorem dX10_planFrom_5 : decode cX10_planFrom 5 = .ok (.aload_n 0, 1) := by decide +kernel
theorem dX10_planFrom_6 : decode cX10_planFrom 6 = .ok (.aload_n 1, 1) := by decide +kernel
theorem dX10_planFrom_7 : decode cX10_planFrom 7 = .ok (.getfield 49, 3) := by decide +kernel
theorem dX10_planFrom_10 : decode cX10_planFrom 10 = .ok (.invokevirtual 52, 3) := by decide +kernel
theorem dX10_planFrom_13 : decode cX10_planFrom 13 = .ok (.return_, 1) := by decide +kernel
theorem dX10_planFrom_14 : decode cX10_planFrom 14 = .ok (.aload_n 0, 1) := by decide +kernel
theorem dX10_planFrom_15 : decode cX10_planFrom 15 = .ok (.getfield 11, 3) := by decide +kernel
theorem dX10_planFrom_18 : decode cX10_planFrom 18 = .ok (.iload_n 2, 1) := by decide +kernel
theorem dX10_planFrom_19 : decode cX10_planFrom 19 = .ok (.invokestatic 56, 3) := by decide +kernel
theorem dX10_planFrom_22 : decode cX10_planFrom 22 = .ok (.astore 4, 2) := by decide +kernel
theorem dX10_planFrom_24 : decode cX10_planFrom 24 = .ok (.aload 4, 2) := by decide +kernel
theorem dX10_planFrom_26 : decode cX10_planFrom 26 = .ok (.ifnonnull 4, 3) := by decide +kernel
theorem dX10_planFrom_29 : decode cX10_planFrom 29 = .ok (.return_, 1) := by decide +kernel
theorem dX10_planFrom_30 : decode cX10_planFrom 30 = .ok (.aload_n 1, 1) := by decide +kernel
theorem dX10_planFrom_31 : decode cX10_planFrom 31 = .ok (.aload_n 1, 1) := by decide +kernel
theorem dX10_planFrom_32 : decode cX10_planFrom 32 = .ok (.getfield 60, 3) := by decide +kernel
theorem dX10_planFrom_35 : decode cX10_planFrom 35 = .ok (.invokevirtual 63, 3) := by decide +kernel
theorem dX10_planFrom_38 : decode cX10_planFrom 38 = .ok (.ifCond .ne 10, 3) := by decide +kernel
theorem dX10_planFrom_41 : decode cX10_planFrom 41 = .ok (.iload_n 2, 1) := by decide +kernel
theorem dX10_planFrom_42 : decode cX10_planFrom 42 = .ok (.iload_n 3, 1) := by decide +kernel
theorem dX10_planFrom_43 : decode cX10_planFrom 43 = .ok (.iconst 1, 1) := by decide +kernel
theorem dX10_planFrom_44 : decode cX10_planFrom 44 = .ok (.isub, 1) := by decide +kernel
theorem dX10_planFrom_45 : decode cX10_planFrom 45 = .ok (.if_icmp .ne 7, 3) := by decide +kernel
theorem dX10_planFrom_48 : decode cX10_planFrom 48 = .ok (.iconst 1, 1) := by decide +kernel
theorem dX10_planFrom_49 : decode cX10_planFrom 49 = .ok (.goto 4, 3) := by decide +kernel
theorem dX10_planFrom_52 : decode cX10_planFrom 52 = .ok (.iconst 5, 1) := by decide +kernel
theorem dX10_planFrom_53 : decode cX10_planFrom 53 = .ok (.istore 5, 2) := by decide +kernel
theorem dX10_planFrom_55 : decode cX10_planFrom 55 = .ok (.iconst 0, 1) := by decide +kernel
theorem dX10_planFrom_56 : decode cX10_planFrom 56 = .ok (.istore 6, 2) := by decide +kernel
theorem dX10_planFrom_58 : decode cX10_planFrom 58 = .ok (.iload 6, 2) := by decide +kernel
theorem dX10_planFrom_60 : decode cX10_planFrom 60 = .ok (.iload 5, 2) := by decide +kernel
theorem dX10_planFrom_62 : decode cX10_planFrom 62 = .ok (.if_icmp .ge 51, 3) := by decide +kernel
theorem dX10_planFrom_65 : decode cX10_planFrom 65 = .ok (.aload_n 0, 1) := by decide +kernel
theorem dX10_planFrom_66 : decode cX10_planFrom 66 = .ok (.getfield 17, 3) := by decide +kernel
theorem dX10_planFrom_69 : decode cX10_planFrom 69 = .ok (.iload_n 2, 1) := by decide +kernel
theorem dX10_planFrom_70 : decode cX10_planFrom 70 = .ok (.iload 6, 2) := by decide +kernel
theorem dX10_planFrom_72 : decode cX10_planFrom 72 = .ok (.invokestatic 67, 3) := by decide +kernel
theorem dX10_planFrom_75 : decode cX10_planFrom 75 = .ok (.aload 4, 2) := by decide +kernel
theorem dX10_planFrom_77 : decode cX10_planFrom 77 = .ok (.aload_n 1, 1) := by decide +kernel
theorem dX10_planFrom_78 : decode cX10_planFrom 78 = .ok (.invokevirtual 71, 3) := by decide +kernel
theorem dX10_planFrom_81 : decode cX10_planFrom 81 = .ok (.aload 4, 2) := by decide +kernel
theorem dX10_planFrom_83 : decode cX10_planFrom 83 = .ok (.iload 6, 2) := by decide +kernel
theorem dX10_planFrom_85 : decode cX10_planFrom 85 = .ok (.invokevirtual 75, 3) := by decide +kernel
theorem dX10_planFrom_88 : decode cX10_planFrom 88 = .ok (.aload 4, 2) := by decide +kernel
theorem dX10_planFrom_90 : decode cX10_planFrom 90 = .ok (.iconst 0, 1) := by decide +kernel
theorem dX10_planFrom_91 : decode cX10_planFrom 91 = .ok (.invokevirtual 78, 3) := by decide +kernel
theorem dX10_planFrom_94 : decode cX10_planFrom 94 = .ok (.ifCond .ne 13, 3) := by decide +kernel
theorem dX10_planFrom_97 : decode cX10_planFrom 97 = .ok (.aload_n 0, 1) := by decide +kernel
theorem dX10_planFrom_98 : decode cX10_planFrom 98 = .ok (.aload 4, 2) := by decide +kernel
theorem dX10_planFrom_100 : decode cX10_planFrom 100 = .ok (.iload_n 2, 1) := by decide +kernel
theorem dX10_planFrom_101 : decode cX10_planFrom 101 = .ok (.iconst 1, 1) := by decide +kernel
theorem dX10_planFrom_102 : decode cX10_planFrom 102 = .ok (.iadd, 1) := by decide +kernel
theorem dX10_planFrom_103 : decode cX10_planFrom 103 = .ok (.iload_n 3, 1) := by decide +kernel
theorem dX10_planFrom_104 : decode cX10_planFrom 104 = .ok (.invokestatic 41, 3) := by decide +kernel
theorem dX10_planFrom_107 : decode cX10_planFrom 107 = .ok (.iinc 6 1, 3) := by decide +kernel
theorem dX10_planFrom_110 : decode cX10_planFrom 110 = .ok (.goto (-52), 3) := by decide +kernel
theorem dX10_planFrom_113 : decode cX10_planFrom 113 = .ok (.return_, 1) := by decide +kernel
theorem dX10_keepIfMost_0 : decode cX10_keepIfMost 0 = .ok (.iload_n 1, 1) := by decide +kernel
theorem dX10_keepIfMost_1 : decode cX10_keepIfMost 1 = .ok (.aload_n 0, 1) := by decide +kernel
theorem dX10_keepIfMost_2 : decode cX10_keepIfMost 2 = .ok (.getfield 37, 3) := by decide +kernel
theorem dX10_keepIfMost_5 : decode cX10_keepIfMost 5 = .ok (.if_icmp .gt 4, 3) := by decide +kernel
theorem dX10_keepIfMost_8 : decode cX10_keepIfMost 8 = .ok (.return_, 1) := by decide +kernel
theorem dX10_keepIfMost_9 : decode cX10_keepIfMost 9 = .ok (.aload_n 0, 1) := by decide +kernel
theorem dX10_keepIfMost_10 : decode cX10_keepIfMost 10 = .ok (.iload_n 1, 1) := by decide +kernel
theorem dX10_keepIfMost_11 : decode cX10_keepIfMost 11 = .ok (.putfield 37, 3) := by decide +kernel
theorem dX10_keepIfMost_14 : decode cX10_keepIfMost 14 = .ok (.aload_n 0, 1) := by decide +kernel
theorem dX10_keepIfMost_15 : decode cX10_keepIfMost 15 = .ok (.getfield 17, 3) := by decide +kernel
theorem dX10_keepIfMost_18 : decode cX10_keepIfMost 18 = .ok (.aload_n 0, 1) := by decide +kernel
theorem dX10_keepIfMost_19 : decode cX10_keepIfMost 19 = .ok (.getfield 21, 3) := by decide +kernel
theorem dX10_keepIfMost_22 : decode cX10_keepIfMost 22 = .ok (.invokestatic 82, 3) := by decide +kernel
theorem dX10_keepIfMost_25 : decode cX10_keepIfMost 25 = .ok (.return_, 1) := by decide +kernel
theorem dX10_firstWant_0 : decode cX10_firstWant 0 = .ok (.aload_n 0, 1) := by decide +kernel
theorem dX10_firstWant_1 : decode cX10_firstWant 1 = .ok (.getfield 33, 3) := by decide +kernel
theorem dX10_firstWant_4 : decode cX10_firstWant 4 = .ok (.aload_n 1, 1) := by decide +kernel
theorem dX10_firstWant_5 : decode cX10_firstWant 5 = .ok (.invokevirtual 71, 3) := by decide +kernel
theorem dX10_firstWant_8 : decode cX10_firstWant 8 = .ok (.aload_n 0, 1) := by decide +kernel
theorem dX10_firstWant_9 : decode cX10_firstWant 9 = .ok (.getfield 33, 3) := by decide +kernel
theorem dX10_firstWant_12 : decode cX10_firstWant 12 = .ok (.iload_n 3, 1) := by decide +kernel
theorem dX10_firstWant_13 : decode cX10_firstWant 13 = .ok (.putfield 49, 3) := by decide +kernel
theorem dX10_firstWant_16 : decode cX10_firstWant 16 = .ok (.iconst 0, 1) := by decide +kernel
theorem dX10_firstWant_17 : decode cX10_firstWant 17 = .ok (.istore 4, 2) := by decide +kernel
theorem dX10_firstWant_19 : decode cX10_firstWant 19 = .ok (.iload 4, 2) := by decide +kernel
theorem dX10_firstWant_21 : decode cX10_firstWant 21 = .ok (.iload_n 2, 1) := by decide +kernel
theorem dX10_firstWant_22 : decode cX10_firstWant 22 = .ok (.if_icmp .ge 23, 3) := by decide +kernel
theorem dX10_firstWant_25 : decode cX10_firstWant 25 = .ok (.aload_n 0, 1) := by decide +kernel
theorem dX10_firstWant_26 : decode cX10_firstWant 26 = .ok (.getfield 33, 3) := by decide +kernel
theorem dX10_firstWant_29 : decode cX10_firstWant 29 = .ok (.iconst 0, 1) := by decide +kernel
theorem dX10_firstWant_30 : decode cX10_firstWant 30 = .ok (.invokevirtual 78, 3) := by decide +kernel
theorem dX10_firstWant_33 : decode cX10_firstWant 33 = .ok (.ifCond .le 6, 3) := by decide +kernel
theorem dX10_firstWant_36 : decode cX10_firstWant 36 = .ok (.iload 4, 2) := by decide +kernel
theorem dX10_firstWant_38 : decode cX10_firstWant 38 = .ok (.ireturn, 1) := by decide +kernel
theorem dX10_firstWant_39 : decode cX10_firstWant 39 = .ok (.iinc 4 1, 3) := by decide +kernel
theorem dX10_firstWant_42 : decode cX10_firstWant 42 = .ok (.goto (-23), 3) := by decide +kernel
theorem dX10_firstWant_45 : decode cX10_firstWant 45 = .ok (.iconst (-1), 1) := by decide +kernel
theorem dX10_firstWant_46 : decode cX10_firstWant 46 = .ok (.ireturn, 1) := by decide +kernel
theorem dX10_leastHeld_0 : decode cX10_leastHeld 0 = .ok (.iconst 0, 1) := by decide +kernel
theorem dX10_leastHeld_1 : decode cX10_leastHeld 1 = .ok (.istore_n 3, 1) := by decide +kernel
theorem dX10_leastHeld_2 : decode cX10_leastHeld 2 = .ok (.sipush 1000, 3) := by decide +kernel
theorem dX10_leastHeld_5 : decode cX10_leastHeld 5 = .ok (.istore 4, 2) := by decide +kernel
theorem dX10_leastHeld_7 : decode cX10_leastHeld 7 = .ok (.iconst 0, 1) := by decide +kernel
theorem dX10_leastHeld_8 : decode cX10_leastHeld 8 = .ok (.istore 5, 2) := by decide +kernel
theorem dX10_leastHeld_10 : decode cX10_leastHeld 10 = .ok (.iload 5, 2) := by decide +kernel
theorem dX10_leastHeld_12 : decode cX10_leastHeld 12 = .ok (.bipush 20, 2) := by decide +kernel
theorem dX10_leastHeld_14 : decode cX10_leastHeld 14 = .ok (.if_icmp .ge 47, 3) := by decide +kernel
theorem dX10_leastHeld_17 : decode cX10_leastHeld 17 = .ok (.iload_n 3, 1) := by decide +kernel
theorem dX10_leastHeld_18 : decode cX10_leastHeld 18 = .ok (.iload 4, 2) := by decide +kernel
theorem dX10_leastHeld_20 : decode cX10_leastHeld 20 = .ok (.if_icmp .ge 41, 3) := by decide +kernel
theorem dX10_leastHeld_23 : decode cX10_leastHeld 23 = .ok (.iload_n 3, 1) := by decide +kernel
theorem dX10_leastHeld_24 : decode cX10_leastHeld 24 = .ok (.iload 4, 2) := by decide +kernel
theorem dX10_leastHeld_26 : decode cX10_leastHeld 26 = .ok (.iadd, 1) := by decide +kernel
theorem dX10_leastHeld_27 : decode cX10_leastHeld 27 = .ok (.iconst 2, 1) := by decide +kernel
theorem dX10_leastHeld_28 : decode cX10_leastHeld 28 = .ok (.idiv, 1) := by decide +kernel
theorem dX10_leastHeld_29 : decode cX10_leastHeld 29 = .ok (.istore 6, 2) := by decide +kernel
theorem dX10_leastHeld_31 : decode cX10_leastHeld 31 = .ok (.aload_n 0, 1) := by decide +kernel
theorem dX10_leastHeld_32 : decode cX10_leastHeld 32 = .ok (.aload_n 1, 1) := by decide +kernel
theorem dX10_leastHeld_33 : decode cX10_leastHeld 33 = .ok (.iload_n 2, 1) := by decide +kernel
theorem dX10_leastHeld_34 : decode cX10_leastHeld 34 = .ok (.iload 6, 2) := by decide +kernel
theorem dX10_leastHeld_36 : decode cX10_leastHeld 36 = .ok (.invokevirtual 86, 3) := by decide +kernel
theorem dX10_leastHeld_39 : decode cX10_leastHeld 39 = .ok (.iconst (-1), 1) := by decide +kernel
theorem dX10_leastHeld_40 : decode cX10_leastHeld 40 = .ok (.if_icmp .ne 10, 3) := by decide +kernel
theorem dX10_leastHeld_43 : decode cX10_leastHeld 43 = .ok (.iload 6, 2) := by decide +kernel
theorem dX10_leastHeld_45 : decode cX10_leastHeld 45 = .ok (.istore 4, 2) := by decide +kernel
theorem dX10_leastHeld_47 : decode cX10_leastHeld 47 = .ok (.goto 8, 3) := by decide +kernel
theorem dX10_leastHeld_50 : decode cX10_leastHeld 50 = .ok (.iload 6, 2) := by decide +kernel
theorem dX10_leastHeld_52 : decode cX10_leastHeld 52 = .ok (.iconst 1, 1) := by decide +kernel
theorem dX10_leastHeld_53 : decode cX10_leastHeld 53 = .ok (.iadd, 1) := by decide +kernel
theorem dX10_leastHeld_54 : decode cX10_leastHeld 54 = .ok (.istore_n 3, 1) := by decide +kernel
theorem dX10_leastHeld_55 : decode cX10_leastHeld 55 = .ok (.iinc 5 1, 3) := by decide +kernel
theorem dX10_leastHeld_58 : decode cX10_leastHeld 58 = .ok (.goto (-48), 3) := by decide +kernel
theorem dX10_leastHeld_61 : decode cX10_leastHeld 61 = .ok (.iload_n 3, 1) := by decide +kernel
theorem dX10_leastHeld_62 : decode cX10_leastHeld 62 = .ok (.sipush 999, 3) := by decide +kernel
theorem dX10_leastHeld_65 : decode cX10_leastHeld 65 = .ok (.if_icmp .le 7, 3) := by decide +kernel
theorem dX10_leastHeld_68 : decode cX10_leastHeld 68 = .ok (.iconst (-1), 1) := by decide +kernel
theorem dX10_leastHeld_69 : decode cX10_leastHeld 69 = .ok (.goto 4, 3) := by decide +kernel
theorem dX10_leastHeld_72 : decode cX10_leastHeld 72 = .ok (.iload_n 3, 1) := by decide +kernel
theorem dX10_leastHeld_73 : decode cX10_leastHeld 73 = .ok (.ireturn, 1) := by decide +kernel
theorem dX10_fewestTeachers_0 : decode cX10_fewestTeachers 0 = .ok (.iconst (-1), 1) := by decide +kernel
theorem dX10_fewestTeachers_1 : decode cX10_fewestTeachers 1 = .ok (.istore_n 3, 1) := by decide +kernel
theorem dX10_fewestTeachers_2 : decode cX10_fewestTeachers 2 = .ok (.iconst 0, 1) := by decide +kernel
theorem dX10_fewestTeachers_3 : decode cX10_fewestTeachers 3 = .ok (.istore 4, 2) := by decide +kernel
theorem dX10_fewestTeachers_5 : decode cX10_fewestTeachers 5 = .ok (.iload 4, 2) := by decide +kernel
theorem dX10_fewestTeachers_7 : decode cX10_fewestTeachers 7 = .ok (.iconst 1, 1) := by decide +kernel
theorem dX10_fewestTeachers_8 : decode cX10_fewestTeachers 8 = .ok (.aload_n 1, 1) := by decide +kernel
theorem dX10_fewestTeachers_9 : decode cX10_fewestTeachers 9 = .ok (.getfield 94, 3) := by decide +kernel
theorem dX10_fewestTeachers_12 : decode cX10_fewestTeachers 12 = .ok (.ishl, 1) := by decide +kernel
theorem dX10_fewestTeachers_13 : decode cX10_fewestTeachers 13 = .ok (.if_icmp .ge 35, 3) := by decide +kernel
theorem dX10_fewestTeachers_16 : decode cX10_fewestTeachers 16 = .ok (.iload 4, 2) := by decide +kernel
theorem dX10_fewestTeachers_18 : decode cX10_fewestTeachers 18 = .ok (.invokestatic 97, 3) := by decide +kernel
theorem dX10_fewestTeachers_21 : decode cX10_fewestTeachers 21 = .ok (.iload_n 3, 1) := by decide +kernel
theorem dX10_fewestTeachers_22 : decode cX10_fewestTeachers 22 = .ok (.invokestatic 97, 3) := by decide +kernel
theorem dX10_fewestTeachers_25 : decode cX10_fewestTeachers 25 = .ok (.if_icmp .ge 17, 3) := by decide +kernel
theorem dX10_fewestTeachers_28 : decode cX10_fewestTeachers 28 = .ok (.aload_n 0, 1) := by decide +kernel
theorem dX10_fewestTeachers_29 : decode cX10_fewestTeachers 29 = .ok (.aload_n 1, 1) := by decide +kernel
theorem dX10_fewestTeachers_30 : decode cX10_fewestTeachers 30 = .ok (.iload_n 2, 1) := by decide +kernel
theorem dX10_fewestTeachers_31 : decode cX10_fewestTeachers 31 = .ok (.iload 4, 2) := by decide +kernel
theorem dX10_fewestTeachers_33 : decode cX10_fewestTeachers 33 = .ok (.invokevirtual 103, 3) := by decide +kernel
theorem dX10_fewestTeachers_36 : decode cX10_fewestTeachers 36 = .ok (.ifCond .eq 6, 3) := by decide +kernel
theorem dX10_fewestTeachers_39 : decode cX10_fewestTeachers 39 = .ok (.iload 4, 2) := by decide +kernel
theorem dX10_fewestTeachers_41 : decode cX10_fewestTeachers 41 = .ok (.istore_n 3, 1) := by decide +kernel
theorem dX10_fewestTeachers_42 : decode cX10_fewestTeachers 42 = .ok (.iinc 4 1, 3) := by decide +kernel
theorem dX10_fewestTeachers_45 : decode cX10_fewestTeachers 45 = .ok (.goto (-40), 3) := by decide +kernel
theorem dX10_fewestTeachers_48 : decode cX10_fewestTeachers 48 = .ok (.iload_n 3, 1) := by decide +kernel
theorem dX10_fewestTeachers_49 : decode cX10_fewestTeachers 49 = .ok (.ireturn, 1) := by decide +kernel
theorem dX10_keepsMemory_0 : decode cX10_keepsMemory 0 = .ok (.aload_n 0, 1) := by decide +kernel
theorem dX10_keepsMemory_1 : decode cX10_keepsMemory 1 = .ok (.getfield 33, 3) := by decide +kernel
theorem dX10_keepsMemory_4 : decode cX10_keepsMemory 4 = .ok (.aload_n 1, 1) := by decide +kernel
theorem dX10_keepsMemory_5 : decode cX10_keepsMemory 5 = .ok (.invokevirtual 71, 3) := by decide +kernel
theorem dX10_keepsMemory_8 : decode cX10_keepsMemory 8 = .ok (.aload_n 0, 1) := by decide +kernel
theorem dX10_keepsMemory_9 : decode cX10_keepsMemory 9 = .ok (.getfield 33, 3) := by decide +kernel
theorem dX10_keepsMemory_12 : decode cX10_keepsMemory 12 = .ok (.iload_n 3, 1) := by decide +kernel
theorem dX10_keepsMemory_13 : decode cX10_keepsMemory 13 = .ok (.invokevirtual 107, 3) := by decide +kernel
theorem dX10_keepsMemory_16 : decode cX10_keepsMemory 16 = .ok (.iconst 0, 1) := by decide +kernel
theorem dX10_keepsMemory_17 : decode cX10_keepsMemory 17 = .ok (.istore 4, 2) := by decide +kernel
theorem dX10_keepsMemory_19 : decode cX10_keepsMemory 19 = .ok (.iload 4, 2) := by decide +kernel
theorem dX10_keepsMemory_21 : decode cX10_keepsMemory 21 = .ok (.iload_n 2, 1) := by decide +kernel
theorem dX10_keepsMemory_22 : decode cX10_keepsMemory 22 = .ok (.if_icmp .ge 18, 3) := by decide +kernel
theorem dX10_keepsMemory_25 : decode cX10_keepsMemory 25 = .ok (.aload_n 0, 1) := by decide +kernel
theorem dX10_keepsMemory_26 : decode cX10_keepsMemory 26 = .ok (.getfield 33, 3) := by decide +kernel
theorem dX10_keepsMemory_29 : decode cX10_keepsMemory 29 = .ok (.iconst 0, 1) := by decide +kernel
theorem dX10_keepsMemory_30 : decode cX10_keepsMemory 30 = .ok (.invokevirtual 78, 3) := by decide +kernel
theorem dX10_keepsMemory_33 : decode cX10_keepsMemory 33 = .ok (.pop, 1) := by decide +kernel
theorem dX10_keepsMemory_34 : decode cX10_keepsMemory 34 = .ok (.iinc 4 1, 3) := by decide +kernel
theorem dX10_keepsMemory_37 : decode cX10_keepsMemory 37 = .ok (.goto (-18), 3) := by decide +kernel
theorem dX10_keepsMemory_40 : decode cX10_keepsMemory 40 = .ok (.aload_n 0, 1) := by decide +kernel
theorem dX10_keepsMemory_41 : decode cX10_keepsMemory 41 = .ok (.getfield 33, 3) := by decide +kernel
theorem dX10_keepsMemory_44 : decode cX10_keepsMemory 44 = .ok (.invokevirtual 110, 3) := by decide +kernel
theorem dX10_keepsMemory_47 : decode cX10_keepsMemory 47 = .ok (.ireturn, 1) := by decide +kernel
theorem dX10_fewestPayments_0 : decode cX10_fewestPayments 0 = .ok (.aload_n 1, 1) := by decide +kernel
theorem dX10_fewestPayments_1 : decode cX10_fewestPayments 1 = .ok (.getfield 114, 3) := by decide +kernel
theorem dX10_fewestPayments_4 : decode cX10_fewestPayments 4 = .ok (.getfield 94, 3) := by decide +kernel
theorem dX10_fewestPayments_7 : decode cX10_fewestPayments 7 = .ok (.istore_n 2, 1) := by decide +kernel
theorem dX10_fewestPayments_8 : decode cX10_fewestPayments 8 = .ok (.aload_n 1, 1) := by decide +kernel
theorem dX10_fewestPayments_9 : decode cX10_fewestPayments 9 = .ok (.getfield 114, 3) := by decide +kernel
theorem dX10_fewestPayments_12 : decode cX10_fewestPayments 12 = .ok (.invokevirtual 119, 3) := by decide +kernel
theorem dX10_fewestPayments_15 : decode cX10_fewestPayments 15 = .ok (.istore_n 3, 1) := by decide +kernel
theorem dX10_fewestPayments_16 : decode cX10_fewestPayments 16 = .ok (.iconst 1, 1) := by decide +kernel
theorem dX10_fewestPayments_17 : decode cX10_fewestPayments 17 = .ok (.iload_n 2, 1) := by decide +kernel
theorem dX10_fewestPayments_18 : decode cX10_fewestPayments 18 = .ok (.ishl, 1) := by decide +kernel
theorem dX10_fewestPayments_19 : decode cX10_fewestPayments 19 = .ok (.iconst 1, 1) := by decide +kernel
theorem dX10_fewestPayments_20 : decode cX10_fewestPayments 20 = .ok (.isub, 1) := by decide +kernel
theorem dX10_fewestPayments_21 : decode cX10_fewestPayments 21 = .ok (.istore 4, 2) := by decide +kernel
theorem dX10_fewestPayments_23 : decode cX10_fewestPayments 23 = .ok (.iconst 1, 1) := by decide +kernel
theorem dX10_fewestPayments_24 : decode cX10_fewestPayments 24 = .ok (.istore 5, 2) := by decide +kernel
theorem dX10_fewestPayments_26 : decode cX10_fewestPayments 26 = .ok (.iload 5, 2) := by decide +kernel
theorem dX10_fewestPayments_28 : decode cX10_fewestPayments 28 = .ok (.iload 4, 2) := by decide +kernel
theorem dX10_fewestPayments_30 : decode cX10_fewestPayments 30 = .ok (.if_icmp .gt 84, 3) := by decide +kernel
theorem dX10_fewestPayments_33 : decode cX10_fewestPayments 33 = .ok (.iload 5, 2) := by decide +kernel
theorem dX10_fewestPayments_35 : decode cX10_fewestPayments 35 = .ok (.invokestatic 123, 3) := by decide +kernel
theorem dX10_fewestPayments_38 : decode cX10_fewestPayments 38 = .ok (.istore 6, 2) := by decide +kernel
theorem dX10_fewestPayments_40 : decode cX10_fewestPayments 40 = .ok (.aload_n 0, 1) := by decide +kernel
theorem dX10_fewestPayments_41 : decode cX10_fewestPayments 41 = .ok (.getfield 24, 3) := by decide +kernel
theorem dX10_fewestPayments_44 : decode cX10_fewestPayments 44 = .ok (.iload 5, 2) := by decide +kernel
theorem dX10_fewestPayments_46 : decode cX10_fewestPayments 46 = .ok (.aload_n 0, 1) := by decide +kernel
theorem dX10_fewestPayments_47 : decode cX10_fewestPayments 47 = .ok (.getfield 24, 3) := by decide +kernel
theorem dX10_fewestPayments_50 : decode cX10_fewestPayments 50 = .ok (.iload 5, 2) := by decide +kernel
theorem dX10_fewestPayments_52 : decode cX10_fewestPayments 52 = .ok (.iload 5, 2) := by decide +kernel
theorem dX10_fewestPayments_54 : decode cX10_fewestPayments 54 = .ok (.iconst 1, 1) := by decide +kernel
theorem dX10_fewestPayments_55 : decode cX10_fewestPayments 55 = .ok (.isub, 1) := by decide +kernel
theorem dX10_fewestPayments_56 : decode cX10_fewestPayments 56 = .ok (.iand, 1) := by decide +kernel
theorem dX10_fewestPayments_57 : decode cX10_fewestPayments 57 = .ok (.invokestatic 45, 3) := by decide +kernel
theorem dX10_fewestPayments_60 : decode cX10_fewestPayments 60 = .ok (.aload_n 1, 1) := by decide +kernel
theorem dX10_fewestPayments_61 : decode cX10_fewestPayments 61 = .ok (.getfield 126, 3) := by decide +kernel
theorem dX10_fewestPayments_64 : decode cX10_fewestPayments 64 = .ok (.iload 6, 2) := by decide +kernel
theorem dX10_fewestPayments_66 : decode cX10_fewestPayments 66 = .ok (.iload_n 3, 1) := by decide +kernel
theorem dX10_fewestPayments_67 : decode cX10_fewestPayments 67 = .ok (.invokevirtual 130, 3) := by decide +kernel
theorem dX10_fewestPayments_70 : decode cX10_fewestPayments 70 = .ok (.iadd, 1) := by decide +kernel
theorem dX10_fewestPayments_71 : decode cX10_fewestPayments 71 = .ok (.invokestatic 67, 3) := by decide +kernel
theorem dX10_fewestPayments_74 : decode cX10_fewestPayments 74 = .ok (.aload_n 0, 1) := by decide +kernel
theorem dX10_fewestPayments_75 : decode cX10_fewestPayments 75 = .ok (.getfield 27, 3) := by decide +kernel
theorem dX10_fewestPayments_78 : decode cX10_fewestPayments 78 = .ok (.iload 5, 2) := by decide +kernel
theorem dX10_fewestPayments_80 : decode cX10_fewestPayments 80 = .ok (.aload_n 0, 1) := by decide +kernel
theorem dX10_fewestPayments_81 : decode cX10_fewestPayments 81 = .ok (.iload 5, 2) := by decide +kernel
theorem dX10_fewestPayments_83 : decode cX10_fewestPayments 83 = .ok (.iload_n 2, 1) := by decide +kernel
theorem dX10_fewestPayments_84 : decode cX10_fewestPayments 84 = .ok (.invokevirtual 136, 3) := by decide +kernel
theorem dX10_fewestPayments_87 : decode cX10_fewestPayments 87 = .ok (.aload_n 0, 1) := by decide +kernel
theorem dX10_fewestPayments_88 : decode cX10_fewestPayments 88 = .ok (.getfield 24, 3) := by decide +kernel
theorem dX10_fewestPayments_91 : decode cX10_fewestPayments 91 = .ok (.iload 5, 2) := by decide +kernel
theorem dX10_fewestPayments_93 : decode cX10_fewestPayments 93 = .ok (.invokestatic 45, 3) := by decide +kernel
theorem dX10_fewestPayments_96 : decode cX10_fewestPayments 96 = .ok (.ifCond .ne 7, 3) := by decide +kernel
theorem dX10_fewestPayments_99 : decode cX10_fewestPayments 99 = .ok (.iconst 1, 1) := by decide +kernel
theorem dX10_fewestPayments_100 : decode cX10_fewestPayments 100 = .ok (.goto 4, 3) := by decide +kernel
theorem dX10_fewestPayments_103 : decode cX10_fewestPayments 103 = .ok (.iconst 0, 1) := by decide +kernel
theorem dX10_fewestPayments_104 : decode cX10_fewestPayments 104 = .ok (.iadd, 1) := by decide +kernel
theorem dX10_fewestPayments_105 : decode cX10_fewestPayments 105 = .ok (.invokestatic 67, 3) := by decide +kernel
theorem dX10_fewestPayments_108 : decode cX10_fewestPayments 108 = .ok (.iinc 5 1, 3) := by decide +kernel
theorem dX10_fewestPayments_111 : decode cX10_fewestPayments 111 = .ok (.goto (-85), 3) := by decide +kernel
theorem dX10_fewestPayments_114 : decode cX10_fewestPayments 114 = .ok (.iload_n 2, 1) := by decide +kernel
theorem dX10_fewestPayments_115 : decode cX10_fewestPayments 115 = .ok (.aload_n 0, 1) := by decide +kernel
theorem dX10_fewestPayments_116 : decode cX10_fewestPayments 116 = .ok (.getfield 27, 3) := by decide +kernel
theorem dX10_fewestPayments_119 : decode cX10_fewestPayments 119 = .ok (.iload 4, 2) := by decide +kernel
theorem dX10_fewestPayments_121 : decode cX10_fewestPayments 121 = .ok (.invokestatic 45, 3) := by decide +kernel
theorem dX10_fewestPayments_124 : decode cX10_fewestPayments 124 = .ok (.isub, 1) := by decide +kernel
theorem dX10_fewestPayments_125 : decode cX10_fewestPayments 125 = .ok (.ireturn, 1) := by decide +kernel
theorem dX10_mostGroupsBelow_0 : decode cX10_mostGroupsBelow 0 = .ok (.iconst 0, 1) := by decide +kernel
theorem dX10_mostGroupsBelow_1 : decode cX10_mostGroupsBelow 1 = .ok (.istore_n 3, 1) := by decide +kernel
theorem dX10_mostGroupsBelow_2 : decode cX10_mostGroupsBelow 2 = .ok (.iconst 0, 1) := by decide +kernel
theorem dX10_mostGroupsBelow_3 : decode cX10_mostGroupsBelow 3 = .ok (.istore 4, 2) := by decide +kernel
theorem dX10_mostGroupsBelow_5 : decode cX10_mostGroupsBelow 5 = .ok (.iload 4, 2) := by decide +kernel
theorem dX10_mostGroupsBelow_7 : decode cX10_mostGroupsBelow 7 = .ok (.iload_n 2, 1) := by decide +kernel
theorem dX10_mostGroupsBelow_8 : decode cX10_mostGroupsBelow 8 = .ok (.if_icmp .ge 36, 3) := by decide +kernel
theorem dX10_mostGroupsBelow_11 : decode cX10_mostGroupsBelow 11 = .ok (.iload_n 1, 1) := by decide +kernel
theorem dX10_mostGroupsBelow_12 : decode cX10_mostGroupsBelow 12 = .ok (.iload 4, 2) := by decide +kernel
theorem dX10_mostGroupsBelow_14 : decode cX10_mostGroupsBelow 14 = .ok (.ishr, 1) := by decide +kernel
theorem dX10_mostGroupsBelow_15 : decode cX10_mostGroupsBelow 15 = .ok (.iconst 1, 1) := by decide +kernel
theorem dX10_mostGroupsBelow_16 : decode cX10_mostGroupsBelow 16 = .ok (.iand, 1) := by decide +kernel
theorem dX10_mostGroupsBelow_17 : decode cX10_mostGroupsBelow 17 = .ok (.ifCond .eq 21, 3) := by decide +kernel
theorem dX10_mostGroupsBelow_20 : decode cX10_mostGroupsBelow 20 = .ok (.iload_n 3, 1) := by decide +kernel
theorem dX10_mostGroupsBelow_21 : decode cX10_mostGroupsBelow 21 = .ok (.aload_n 0, 1) := by decide +kernel
theorem dX10_mostGroupsBelow_22 : decode cX10_mostGroupsBelow 22 = .ok (.getfield 27, 3) := by decide +kernel
theorem dX10_mostGroupsBelow_25 : decode cX10_mostGroupsBelow 25 = .ok (.iload_n 1, 1) := by decide +kernel
theorem dX10_mostGroupsBelow_26 : decode cX10_mostGroupsBelow 26 = .ok (.iconst 1, 1) := by decide +kernel
theorem dX10_mostGroupsBelow_27 : decode cX10_mostGroupsBelow 27 = .ok (.iload 4, 2) := by decide +kernel
theorem dX10_mostGroupsBelow_29 : decode cX10_mostGroupsBelow 29 = .ok (.ishl, 1) := by decide +kernel
theorem dX10_mostGroupsBelow_30 : decode cX10_mostGroupsBelow 30 = .ok (.ixor, 1) := by decide +kernel
theorem dX10_mostGroupsBelow_31 : decode cX10_mostGroupsBelow 31 = .ok (.invokestatic 45, 3) := by decide +kernel
theorem dX10_mostGroupsBelow_34 : decode cX10_mostGroupsBelow 34 = .ok (.invokestatic 139, 3) := by decide +kernel
theorem dX10_mostGroupsBelow_37 : decode cX10_mostGroupsBelow 37 = .ok (.istore_n 3, 1) := by decide +kernel
theorem dX10_mostGroupsBelow_38 : decode cX10_mostGroupsBelow 38 = .ok (.iinc 4 1, 3) := by decide +kernel
theorem dX10_mostGroupsBelow_41 : decode cX10_mostGroupsBelow 41 = .ok (.goto (-36), 3) := by decide +kernel
theorem dX10_mostGroupsBelow_44 : decode cX10_mostGroupsBelow 44 = .ok (.iload_n 3, 1) := by decide +kernel
theorem dX10_mostGroupsBelow_45 : decode cX10_mostGroupsBelow 45 = .ok (.ireturn, 1) := by decide +kernel
theorem dX11_init_0 : decode cX11_init 0 = .ok (.aload_n 0, 1) := by decide +kernel
theorem dX11_init_1 : decode cX11_init 1 = .ok (.invokespecial 1, 3) := by decide +kernel
theorem dX11_init_4 : decode cX11_init 4 = .ok (.aload_n 0, 1) := by decide +kernel
theorem dX11_init_5 : decode cX11_init 5 = .ok (.new 7, 3) := by decide +kernel
theorem dX11_init_8 : decode cX11_init 8 = .ok (.dup, 1) := by decide +kernel
theorem dX11_init_9 : decode cX11_init 9 = .ok (.invokespecial 9, 3) := by decide +kernel
theorem dX11_init_12 : decode cX11_init 12 = .ok (.putfield 10, 3) := by decide +kernel
theorem dX11_init_15 : decode cX11_init 15 = .ok (.aload_n 0, 1) := by decide +kernel
theorem dX11_init_16 : decode cX11_init 16 = .ok (.bipush 6, 2) := by decide +kernel
theorem dX11_init_18 : decode cX11_init 18 = .ok (.newarray .int, 2) := by decide +kernel
theorem dX11_init_20 : decode cX11_init 20 = .ok (.putfield 16, 3) := by decide +kernel
theorem dX11_init_23 : decode cX11_init 23 = .ok (.iconst 5, 1) := by decide +kernel
theorem dX11_init_24 : decode cX11_init 24 = .ok (.anewarray 20, 3) := by decide +kernel
theorem dX11_init_27 : decode cX11_init 27 = .ok (.dup, 1) := by decide +kernel
theorem dX11_init_28 : decode cX11_init 28 = .ok (.iconst 0, 1) := by decide +kernel
theorem dX11_init_29 : decode cX11_init 29 = .ok (.new 20, 3) := by decide +kernel
theorem dX11_init_32 : decode cX11_init 32 = .ok (.dup, 1) := by decide +kernel
theorem dX11_init_33 : decode cX11_init 33 = .ok (.invokespecial 22, 3) := by decide +kernel
theorem dX11_init_36 : decode cX11_init 36 = .ok (.aastore, 1) := by decide +kernel
theorem dX11_init_37 : decode cX11_init 37 = .ok (.dup, 1) := by decide +kernel
theorem dX11_init_38 : decode cX11_init 38 = .ok (.iconst 1, 1) := by decide +kernel
theorem dX11_init_39 : decode cX11_init 39 = .ok (.new 23, 3) := by decide +kernel
theorem dX11_init_42 : decode cX11_init 42 = .ok (.dup, 1) := by decide +kernel
theorem dX11_init_43 : decode cX11_init 43 = .ok (.invokespecial 25, 3) := by decide +kernel
theorem dX11_init_46 : decode cX11_init 46 = .ok (.aastore, 1) := by decide +kernel
theorem dX11_init_47 : decode cX11_init 47 = .ok (.dup, 1) := by decide +kernel
theorem dX11_init_48 : decode cX11_init 48 = .ok (.iconst 2, 1) := by decide +kernel
theorem dX11_init_49 : decode cX11_init 49 = .ok (.new 26, 3) := by decide +kernel
theorem dX11_init_52 : decode cX11_init 52 = .ok (.dup, 1) := by decide +kernel
theorem dX11_init_53 : decode cX11_init 53 = .ok (.invokespecial 28, 3) := by decide +kernel
theorem dX11_init_56 : decode cX11_init 56 = .ok (.aastore, 1) := by decide +kernel
theorem dX11_init_57 : decode cX11_init 57 = .ok (.dup, 1) := by decide +kernel
theorem dX11_init_58 : decode cX11_init 58 = .ok (.iconst 3, 1) := by decide +kernel
theorem dX11_init_59 : decode cX11_init 59 = .ok (.new 29, 3) := by decide +kernel
theorem dX11_init_62 : decode cX11_init 62 = .ok (.dup, 1) := by decide +kernel
theorem dX11_init_63 : decode cX11_init 63 = .ok (.invokespecial 31, 3) := by decide +kernel
theorem dX11_init_66 : decode cX11_init 66 = .ok (.aastore, 1) := by decide +kernel
theorem dX11_init_67 : decode cX11_init 67 = .ok (.dup, 1) := by decide +kernel
theorem dX11_init_68 : decode cX11_init 68 = .ok (.iconst 4, 1) := by decide +kernel
theorem dX11_init_69 : decode cX11_init 69 = .ok (.new 32, 3) := by decide +kernel
theorem dX11_init_72 : decode cX11_init 72 = .ok (.dup, 1) := by decide +kernel
theorem dX11_init_73 : decode cX11_init 73 = .ok (.invokespecial 34, 3) := by decide +kernel
theorem dX11_init_76 : decode cX11_init 76 = .ok (.aastore, 1) := by decide +kernel
theorem dX11_init_77 : decode cX11_init 77 = .ok (.astore_n 1, 1) := by decide +kernel
theorem dX11_init_78 : decode cX11_init 78 = .ok (.aload_n 0, 1) := by decide +kernel
theorem dX11_init_79 : decode cX11_init 79 = .ok (.new 35, 3) := by decide +kernel
theorem dX11_init_82 : decode cX11_init 82 = .ok (.dup, 1) := by decide +kernel
theorem dX11_init_83 : decode cX11_init 83 = .ok (.aload_n 1, 1) := by decide +kernel
theorem dX11_init_84 : decode cX11_init 84 = .ok (.invokespecial 37, 3) := by decide +kernel
theorem dX11_init_87 : decode cX11_init 87 = .ok (.putfield 40, 3) := by decide +kernel
theorem dX11_init_90 : decode cX11_init 90 = .ok (.aload_n 0, 1) := by decide +kernel
theorem dX11_init_91 : decode cX11_init 91 = .ok (.new 35, 3) := by decide +kernel
theorem dX11_init_94 : decode cX11_init 94 = .ok (.dup, 1) := by decide +kernel
theorem dX11_init_95 : decode cX11_init 95 = .ok (.aload_n 1, 1) := by decide +kernel
theorem dX11_init_96 : decode cX11_init 96 = .ok (.invokespecial 37, 3) := by decide +kernel
theorem dX11_init_99 : decode cX11_init 99 = .ok (.putfield 44, 3) := by decide +kernel
theorem dX11_init_102 : decode cX11_init 102 = .ok (.aload_n 0, 1) := by decide +kernel
theorem dX11_init_103 : decode cX11_init 103 = .ok (.new 35, 3) := by decide +kernel
theorem dX11_init_106 : decode cX11_init 106 = .ok (.dup, 1) := by decide +kernel
theorem dX11_init_107 : decode cX11_init 107 = .ok (.aload_n 1, 1) := by decide +kernel
theorem dX11_init_108 : decode cX11_init 108 = .ok (.invokespecial 37, 3) := by decide +kernel
theorem dX11_init_111 : decode cX11_init 111 = .ok (.putfield 47, 3) := by decide +kernel
theorem dX11_init_114 : decode cX11_init 114 = .ok (.aload_n 0, 1) := by decide +kernel
theorem dX11_init_115 : decode cX11_init 115 = .ok (.new 35, 3) := by decide +kernel
theorem dX11_init_118 : decode cX11_init 118 = .ok (.dup, 1) := by decide +kernel
theorem dX11_init_119 : decode cX11_init 119 = .ok (.aload_n 1, 1) := by decide +kernel
theorem dX11_init_120 : decode cX11_init 120 = .ok (.invokespecial 37, 3) := by decide +kernel
theorem dX11_init_123 : decode cX11_init 123 = .ok (.putfield 50, 3) := by decide +kernel
theorem dX11_init_126 : decode cX11_init 126 = .ok (.aload_n 0, 1) := by decide +kernel
theorem dX11_init_127 : decode cX11_init 127 = .ok (.new 53, 3) := by decide +kernel
theorem dX11_init_130 : decode cX11_init 130 = .ok (.dup, 1) := by decide +kernel
theorem dX11_init_131 : decode cX11_init 131 = .ok (.aload_n 1, 1) := by decide +kernel
theorem dX11_init_132 : decode cX11_init 132 = .ok (.invokespecial 55, 3) := by decide +kernel
theorem dX11_init_135 : decode cX11_init 135 = .ok (.putfield 56, 3) := by decide +kernel
theorem dX11_init_138 : decode cX11_init 138 = .ok (.aload_n 0, 1) := by decide +kernel
theorem dX11_init_139 : decode cX11_init 139 = .ok (.lconst 1, 1) := by decide +kernel
theorem dX11_init_140 : decode cX11_init 140 = .ok (.putfield 60, 3) := by decide +kernel
theorem dX11_init_143 : decode cX11_init 143 = .ok (.return_, 1) := by decide +kernel
theorem dX11_year_0 : decode cX11_year 0 = .ok (.iload_n 1, 1) := by decide +kernel
theorem dX11_year_1 : decode cX11_year 1 = .ok (.iconst 2, 1) := by decide +kernel
theorem dX11_year_2 : decode cX11_year 2 = .ok (.bipush 70, 2) := by decide +kernel
theorem dX11_year_4 : decode cX11_year 4 = .ok (.invokestatic 64, 3) := by decide +kernel
theorem dX11_year_7 : decode cX11_year 7 = .ok (.ifCond .ne 10, 3) := by decide +kernel
theorem dX11_year_10 : decode cX11_year 10 = .ok (.aload_n 0, 1) := by decide +kernel
theorem dX11_year_11 : decode cX11_year 11 = .ok (.bipush (-2), 2) := by decide +kernel
theorem dX11_year_13 : decode cX11_year 13 = .ok (.invokevirtual 68, 3) := by decide +kernel
theorem dX11_year_16 : decode cX11_year 16 = .ok (.ireturn, 1) := by decide +kernel
theorem dX11_year_17 : decode cX11_year 17 = .ok (.aload_n 0, 1) := by decide +kernel
theorem dX11_year_18 : decode cX11_year 18 = .ok (.getfield 40, 3) := by decide +kernel
theorem dX11_year_21 : decode cX11_year 21 = .ok (.getfield 72, 3) := by decide +kernel
theorem dX11_year_24 : decode cX11_year 24 = .ok (.getfield 76, 3) := by decide +kernel
theorem dX11_year_27 : decode cX11_year 27 = .ok (.istore_n 2, 1) := by decide +kernel
theorem dX11_year_28 : decode cX11_year 28 = .ok (.aload_n 0, 1) := by decide +kernel
theorem dX11_year_29 : decode cX11_year 29 = .ok (.getfield 40, 3) := by decide +kernel
theorem dX11_year_32 : decode cX11_year 32 = .ok (.iload_n 1, 1) := by decide +kernel
theorem dX11_year_33 : decode cX11_year 33 = .ok (.invokevirtual 82, 3) := by decide +kernel
theorem dX11_year_36 : decode cX11_year 36 = .ok (.iload_n 2, 1) := by decide +kernel
theorem dX11_year_37 : decode cX11_year 37 = .ok (.ireturn, 1) := by decide +kernel
theorem dX11_store_0 : decode cX11_store 0 = .ok (.iload_n 1, 1) := by decide +kernel
theorem dX11_store_1 : decode cX11_store 1 = .ok (.iconst 0, 1) := by decide +kernel
theorem dX11_store_2 : decode cX11_store 2 = .ok (.iconst 3, 1) := by decide +kernel
theorem dX11_store_3 : decode cX11_store 3 = .ok (.invokestatic 64, 3) := by decide +kernel
theorem dX11_store_6 : decode cX11_store 6 = .ok (.ifCond .eq 14, 3) := by decide +kernel
theorem dX11_store_9 : decode cX11_store 9 = .ok (.iload_n 2, 1) := by decide +kernel
theorem dX11_store_10 : decode cX11_store 10 = .ok (.iconst 0, 1) := by decide +kernel
theorem dX11_store_11 : decode cX11_store 11 = .ok (.sipush 9999, 3) := by decide +kernel
theorem dX11_store_14 : decode cX11_store 14 = .ok (.invokestatic 64, 3) := by decide +kernel
theorem dX11_store_17 : decode cX11_store 17 = .ok (.ifCond .ne 10, 3) := by decide +kernel
theorem dX11_store_20 : decode cX11_store 20 = .ok (.aload_n 0, 1) := by decide +kernel
theorem dX11_store_21 : decode cX11_store 21 = .ok (.bipush (-2), 2) := by decide +kernel
theorem dX11_store_23 : decode cX11_store 23 = .ok (.invokevirtual 68, 3) := by decide +kernel
theorem dX11_store_26 : decode cX11_store 26 = .ok (.ireturn, 1) := by decide +kernel
theorem dX11_store_27 : decode cX11_store 27 = .ok (.aload_n 0, 1) := by decide +kernel
theorem dX11_store_28 : decode cX11_store 28 = .ok (.getfield 40, 3) := by decide +kernel
theorem dX11_store_31 : decode cX11_store 31 = .ok (.getfield 72, 3) := by decide +kernel
theorem dX11_store_34 : decode cX11_store 34 = .ok (.iload_n 1, 1) := by decide +kernel
theorem dX11_store_35 : decode cX11_store 35 = .ok (.invokevirtual 86, 3) := by decide +kernel
theorem dX11_store_38 : decode cX11_store 38 = .ok (.istore_n 3, 1) := by decide +kernel
theorem dX11_store_39 : decode cX11_store 39 = .ok (.aload_n 0, 1) := by decide +kernel
theorem dX11_store_40 : decode cX11_store 40 = .ok (.getfield 40, 3) := by decide +kernel
theorem dX11_store_43 : decode cX11_store 43 = .ok (.getfield 72, 3) := by decide +kernel
theorem dX11_store_46 : decode cX11_store 46 = .ok (.iload_n 1, 1) := by decide +kernel
theorem dX11_store_47 : decode cX11_store 47 = .ok (.iload_n 2, 1) := by decide +kernel
theorem dX11_store_48 : decode cX11_store 48 = .ok (.invokevirtual 89, 3) := by decide +kernel
theorem dX11_store_51 : decode cX11_store 51 = .ok (.iload_n 3, 1) := by decide +kernel
theorem dX11_store_52 : decode cX11_store 52 = .ok (.ireturn, 1) := by decide +kernel
theorem dX11_family_0 : decode cX11_family 0 = .ok (.iload_n 1, 1) := by decide +kernel
theorem dX11_family_1 : decode cX11_family 1 = .ok (.iconst 0, 1) := by decide +kernel
theorem dX11_family_2 : decode cX11_family 2 = .ok (.iconst 4, 1) := by decide +kernel
theorem dX11_family_3 : decode cX11_family 3 = .ok (.invokestatic 64, 3) := by decide +kernel
theorem dX11_family_6 : decode cX11_family 6 = .ok (.ifCond .eq 13, 3) := by decide +kernel
theorem dX11_family_9 : decode cX11_family 9 = .ok (.iload_n 2, 1) := by decide +kernel
theorem dX11_family_10 : decode cX11_family 10 = .ok (.iconst 1, 1) := by decide +kernel
theorem dX11_family_11 : decode cX11_family 11 = .ok (.bipush 20, 2) := by decide +kernel
theorem dX11_family_13 : decode cX11_family 13 = .ok (.invokestatic 64, 3) := by decide +kernel
theorem dX11_family_16 : decode cX11_family 16 = .ok (.ifCond .ne 10, 3) := by decide +kernel
theorem dX11_family_19 : decode cX11_family 19 = .ok (.aload_n 0, 1) := by decide +kernel
theorem dX11_family_20 : decode cX11_family 20 = .ok (.bipush (-2), 2) := by decide +kernel
theorem dX11_family_22 : decode cX11_family 22 = .ok (.invokevirtual 68, 3) := by decide +kernel
theorem dX11_family_25 : decode cX11_family 25 = .ok (.ireturn, 1) := by decide +kernel
theorem dX11_family_26 : decode cX11_family 26 = .ok (.iload_n 3, 1) := by decide +kernel
theorem dX11_family_27 : decode cX11_family 27 = .ok (.iconst 0, 1) := by decide +kernel
theorem dX11_family_28 : decode cX11_family 28 = .ok (.bipush 9, 2) := by decide +kernel
theorem dX11_family_30 : decode cX11_family 30 = .ok (.invokestatic 64, 3) := by decide +kernel
theorem dX11_family_33 : decode cX11_family 33 = .ok (.ifCond .ne 10, 3) := by decide +kernel
theorem dX11_family_36 : decode cX11_family 36 = .ok (.aload_n 0, 1) := by decide +kernel
theorem dX11_family_37 : decode cX11_family 37 = .ok (.bipush (-2), 2) := by decide +kernel
theorem dX11_family_39 : decode cX11_family 39 = .ok (.invokevirtual 68, 3) := by decide +kernel
theorem dX11_family_42 : decode cX11_family 42 = .ok (.ireturn, 1) := by decide +kernel
theorem dX11_family_43 : decode cX11_family 43 = .ok (.aload_n 0, 1) := by decide +kernel
theorem dX11_family_44 : decode cX11_family 44 = .ok (.getfield 40, 3) := by decide +kernel
theorem dX11_family_47 : decode cX11_family 47 = .ok (.getfield 72, 3) := by decide +kernel
theorem dX11_family_50 : decode cX11_family 50 = .ok (.getfield 93, 3) := by decide +kernel
theorem dX11_family_53 : decode cX11_family 53 = .ok (.bipush 6, 2) := by decide +kernel
theorem dX11_family_55 : decode cX11_family 55 = .ok (.if_icmp .lt 8, 3) := by decide +kernel
theorem dX11_family_58 : decode cX11_family 58 = .ok (.aload_n 0, 1) := by decide +kernel
theorem dX11_family_59 : decode cX11_family 59 = .ok (.invokevirtual 96, 3) := by decide +kernel
theorem dX11_family_62 : decode cX11_family 62 = .ok (.ireturn, 1) := by decide +kernel
theorem dX11_family_63 : decode cX11_family 63 = .ok (.aload_n 0, 1) := by decide +kernel
theorem dX11_family_64 : decode cX11_family 64 = .ok (.getfield 40, 3) := by decide +kernel
theorem dX11_family_67 : decode cX11_family 67 = .ok (.getfield 72, 3) := by decide +kernel
theorem dX11_family_70 : decode cX11_family 70 = .ok (.iload_n 1, 1) := by decide +kernel
theorem dX11_family_71 : decode cX11_family 71 = .ok (.iload_n 2, 1) := by decide +kernel
theorem dX11_family_72 : decode cX11_family 72 = .ok (.iload_n 3, 1) := by decide +kernel
theorem dX11_family_73 : decode cX11_family 73 = .ok (.invokevirtual 100, 3) := by decide +kernel
theorem dX11_family_76 : decode cX11_family 76 = .ok (.ireturn, 1) := by decide +kernel
theorem dX11_job_0 : decode cX11_job 0 = .ok (.aload_n 0, 1) := by decide +kernel
theorem dX11_job_1 : decode cX11_job 1 = .ok (.iload_n 1, 1) := by decide +kernel
theorem dX11_job_2 : decode cX11_job 2 = .ok (.invokevirtual 104, 3) := by decide +kernel
theorem dX11_job_5 : decode cX11_job 5 = .ok (.ifCond .eq 12, 3) := by decide +kernel
theorem dX11_job_8 : decode cX11_job 8 = .ok (.iload_n 2, 1) := by decide +kernel
theorem dX11_job_9 : decode cX11_job 9 = .ok (.iconst 0, 1) := by decide +kernel
theorem dX11_job_10 : decode cX11_job 10 = .ok (.iconst 4, 1) := by decide +kernel
theorem dX11_job_11 : decode cX11_job 11 = .ok (.invokestatic 64, 3) := by decide +kernel
theorem dX11_job_14 : decode cX11_job 14 = .ok (.ifCond .ne 10, 3) := by decide +kernel
theorem dX11_job_17 : decode cX11_job 17 = .ok (.aload_n 0, 1) := by decide +kernel
theorem dX11_job_18 : decode cX11_job 18 = .ok (.bipush (-2), 2) := by decide +kernel
theorem dX11_job_20 : decode cX11_job 20 = .ok (.invokevirtual 68, 3) := by decide +kernel
theorem dX11_job_23 : decode cX11_job 23 = .ok (.ireturn, 1) := by decide +kernel
theorem dX11_job_24 : decode cX11_job 24 = .ok (.aload_n 0, 1) := by decide +kernel
theorem dX11_job_25 : decode cX11_job 25 = .ok (.getfield 40, 3) := by decide +kernel
theorem dX11_job_28 : decode cX11_job 28 = .ok (.getfield 72, 3) := by decide +kernel
theorem dX11_job_31 : decode cX11_job 31 = .ok (.iload_n 1, 1) := by decide +kernel
theorem dX11_job_32 : decode cX11_job 32 = .ok (.invokevirtual 108, 3) := by decide +kernel
theorem dX11_job_35 : decode cX11_job 35 = .ok (.astore_n 3, 1) := by decide +kernel
theorem dX11_job_36 : decode cX11_job 36 = .ok (.aload_n 3, 1) := by decide +kernel
theorem dX11_job_37 : decode cX11_job 37 = .ok (.getfield 112, 3) := by decide +kernel
theorem dX11_job_40 : decode cX11_job 40 = .ok (.istore 4, 2) := by decide +kernel
theorem dX11_job_42 : decode cX11_job 42 = .ok (.aload_n 3, 1) := by decide +kernel
theorem dX11_job_43 : decode cX11_job 43 = .ok (.iload_n 2, 1) := by decide +kernel
theorem dX11_job_44 : decode cX11_job 44 = .ok (.putfield 112, 3) := by decide +kernel
theorem dX11_job_47 : decode cX11_job 47 = .ok (.iload 4, 2) := by decide +kernel
theorem dX11_job_49 : decode cX11_job 49 = .ok (.ireturn, 1) := by decide +kernel
theorem dX11_pass_0 : decode cX11_pass 0 = .ok (.iload_n 1, 1) := by decide +kernel
theorem dX11_pass_1 : decode cX11_pass 1 = .ok (.iconst 1, 1) := by decide +kernel
theorem dX11_pass_2 : decode cX11_pass 2 = .ok (.bipush 20, 2) := by decide +kernel
theorem dX11_pass_4 : decode cX11_pass 4 = .ok (.invokestatic 64, 3) := by decide +kernel
theorem dX11_pass_7 : decode cX11_pass 7 = .ok (.ifCond .ne 10, 3) := by decide +kernel
theorem dX11_pass_10 : decode cX11_pass 10 = .ok (.aload_n 0, 1) := by decide +kernel
theorem dX11_pass_11 : decode cX11_pass 11 = .ok (.bipush (-2), 2) := by decide +kernel
theorem dX11_pass_13 : decode cX11_pass 13 = .ok (.invokevirtual 68, 3) := by decide +kernel
theorem dX11_pass_16 : decode cX11_pass 16 = .ok (.ireturn, 1) := by decide +kernel
theorem dX11_pass_17 : decode cX11_pass 17 = .ok (.iconst 0, 1) := by decide +kernel
theorem dX11_pass_18 : decode cX11_pass 18 = .ok (.istore_n 2, 1) := by decide +kernel
theorem dX11_pass_19 : decode cX11_pass 19 = .ok (.iconst 0, 1) := by decide +kernel
theorem dX11_pass_20 : decode cX11_pass 20 = .ok (.istore_n 3, 1) := by decide +kernel
theorem dX11_pass_21 : decode cX11_pass 21 = .ok (.iload_n 3, 1) := by decide +kernel
theorem dX11_pass_22 : decode cX11_pass 22 = .ok (.iload_n 1, 1) := by decide +kernel
theorem dX11_pass_23 : decode cX11_pass 23 = .ok (.if_icmp .ge 19, 3) := by decide +kernel
theorem dX11_pass_26 : decode cX11_pass 26 = .ok (.iload_n 2, 1) := by decide +kernel
theorem dX11_pass_27 : decode cX11_pass 27 = .ok (.aload_n 0, 1) := by decide +kernel
theorem dX11_pass_28 : decode cX11_pass 28 = .ok (.getfield 40, 3) := by decide +kernel
theorem dX11_pass_31 : decode cX11_pass 31 = .ok (.invokevirtual 129, 3) := by decide +kernel
theorem dX11_pass_34 : decode cX11_pass 34 = .ok (.iadd, 1) := by decide +kernel
theorem dX11_pass_35 : decode cX11_pass 35 = .ok (.istore_n 2, 1) := by decide +kernel
theorem dX11_pass_36 : decode cX11_pass 36 = .ok (.iinc 3 1, 3) := by decide +kernel
theorem dX11_pass_39 : decode cX11_pass 39 = .ok (.goto (-18), 3) := by decide +kernel
theorem dX11_pass_42 : decode cX11_pass 42 = .ok (.iload_n 2, 1) := by decide +kernel
theorem dX11_pass_43 : decode cX11_pass 43 = .ok (.ireturn, 1) := by decide +kernel
theorem dX11_undo_0 : decode cX11_undo 0 = .ok (.aload_n 0, 1) := by decide +kernel
theorem dX11_undo_1 : decode cX11_undo 1 = .ok (.getfield 40, 3) := by decide +kernel
theorem dX11_undo_4 : decode cX11_undo 4 = .ok (.invokevirtual 132, 3) := by decide +kernel
theorem dX11_undo_7 : decode cX11_undo 7 = .ok (.ifCond .eq 7, 3) := by decide +kernel
theorem dX11_undo_10 : decode cX11_undo 10 = .ok (.iconst 1, 1) := by decide +kernel
theorem dX11_undo_11 : decode cX11_undo 11 = .ok (.goto 7, 3) := by decide +kernel
theorem dX11_undo_14 : decode cX11_undo 14 = .ok (.aload_n 0, 1) := by decide +kernel
theorem dX11_undo_15 : decode cX11_undo 15 = .ok (.invokevirtual 136, 3) := by decide +kernel
theorem dX11_undo_18 : decode cX11_undo 18 = .ok (.ireturn, 1) := by decide +kernel
theorem dX11_about_0 : decode cX11_about 0 = .ok (.aload_n 0, 1) := by decide +kernel
theorem dX11_about_1 : decode cX11_about 1 = .ok (.iload_n 1, 1) := by decide +kernel
theorem dX11_about_2 : decode cX11_about 2 = .ok (.invokevirtual 104, 3) := by decide +kernel
theorem dX11_about_5 : decode cX11_about 5 = .ok (.ifCond .ne 10, 3) := by decide +kernel
theorem dX11_about_8 : decode cX11_about 8 = .ok (.aload_n 0, 1) := by decide +kernel
theorem dX11_about_9 : decode cX11_about 9 = .ok (.bipush (-2), 2) := by decide +kernel
theorem dX11_about_11 : decode cX11_about 11 = .ok (.invokevirtual 68, 3) := by decide +kernel
theorem dX11_about_14 : decode cX11_about 14 = .ok (.ireturn, 1) := by decide +kernel
theorem dX11_about_15 : decode cX11_about 15 = .ok (.aload_n 0, 1) := by decide +kernel
theorem dX11_about_16 : decode cX11_about 16 = .ok (.getfield 40, 3) := by decide +kernel
theorem dX11_about_19 : decode cX11_about 19 = .ok (.getfield 72, 3) := by decide +kernel
theorem dX11_about_22 : decode cX11_about 22 = .ok (.iload_n 1, 1) := by decide +kernel
theorem dX11_about_23 : decode cX11_about 23 = .ok (.invokevirtual 108, 3) := by decide +kernel
theorem dX11_about_26 : decode cX11_about 26 = .ok (.astore_n 3, 1) := by decide +kernel
theorem dX11_about_27 : decode cX11_about 27 = .ok (.iload_n 2, 1) := by decide +kernel
theorem dX11_about_28 : decode cX11_about 28 = .ok (.tableswitch 52 0 3 #[32, 37, 42, 47], 32) := by decide +kernel
theorem dX11_about_60 : decode cX11_about 60 = .ok (.aload_n 3, 1) := by decide +kernel
theorem dX11_about_61 : decode cX11_about 61 = .ok (.getfield 139, 3) := by decide +kernel
theorem dX11_about_64 : decode cX11_about 64 = .ok (.ireturn, 1) := by decide +kernel
theorem dX11_about_65 : decode cX11_about 65 = .ok (.aload_n 3, 1) := by decide +kernel
theorem dX11_about_66 : decode cX11_about 66 = .ok (.getfield 142, 3) := by decide +kernel
theorem dX11_about_69 : decode cX11_about 69 = .ok (.ireturn, 1) := by decide +kernel
theorem dX11_about_70 : decode cX11_about 70 = .ok (.aload_n 3, 1) := by decide +kernel
theorem dX11_about_71 : decode cX11_about 71 = .ok (.getfield 145, 3) := by decide +kernel
theorem dX11_about_74 : decode cX11_about 74 = .ok (.ireturn, 1) := by decide +kernel
theorem dX11_about_75 : decode cX11_about 75 = .ok (.aload_n 3, 1) := by decide +kernel
theorem dX11_about_76 : decode cX11_about 76 = .ok (.getfield 112, 3) := by decide +kernel
theorem dX11_about_79 : decode cX11_about 79 = .ok (.ireturn, 1) := by decide +kernel
theorem dX11_about_80 : decode cX11_about 80 = .ok (.aload_n 0, 1) := by decide +kernel
theorem dX11_about_81 : decode cX11_about 81 = .ok (.bipush (-2), 2) := by decide +kernel
theorem dX11_about_83 : decode cX11_about 83 = .ok (.invokevirtual 68, 3) := by decide +kernel
theorem dX11_about_86 : decode cX11_about 86 = .ok (.ireturn, 1) := by decide +kernel
theorem dX11_plan_0 : decode cX11_plan 0 = .ok (.iload_n 1, 1) := by decide +kernel
theorem dX11_plan_1 : decode cX11_plan 1 = .ok (.iconst 0, 1) := by decide +kernel
theorem dX11_plan_2 : decode cX11_plan 2 = .ok (.iconst 5, 1) := by decide +kernel
theorem dX11_plan_3 : decode cX11_plan 3 = .ok (.invokestatic 64, 3) := by decide +kernel
theorem dX11_plan_6 : decode cX11_plan 6 = .ok (.ifCond .eq 8, 3) := by decide +kernel
theorem dX11_plan_9 : decode cX11_plan 9 = .ok (.iload_n 2, 1) := by decide +kernel
theorem dX11_plan_10 : decode cX11_plan 10 = .ok (.iconst (-1), 1) := by decide +kernel
theorem dX11_plan_11 : decode cX11_plan 11 = .ok (.if_icmp .ge 10, 3) := by decide +kernel
theorem dX11_plan_14 : decode cX11_plan 14 = .ok (.aload_n 0, 1) := by decide +kernel
theorem dX11_plan_15 : decode cX11_plan 15 = .ok (.bipush (-10), 2) := by decide +kernel
theorem dX11_plan_17 : decode cX11_plan 17 = .ok (.invokevirtual 68, 3) := by decide +kernel
theorem dX11_plan_20 : decode cX11_plan 20 = .ok (.ireturn, 1) := by decide +kernel
theorem dX11_plan_21 : decode cX11_plan 21 = .ok (.aload_n 0, 1) := by decide +kernel
theorem dX11_plan_22 : decode cX11_plan 22 = .ok (.getfield 56, 3) := by decide +kernel
theorem dX11_plan_25 : decode cX11_plan 25 = .ok (.aload_n 0, 1) := by decide +kernel
theorem dX11_plan_26 : decode cX11_plan 26 = .ok (.getfield 40, 3) := by decide +kernel
theorem dX11_plan_29 : decode cX11_plan 29 = .ok (.getfield 72, 3) := by decide +kernel
theorem dX11_plan_32 : decode cX11_plan 32 = .ok (.iload_n 1, 1) := by decide +kernel
theorem dX11_plan_33 : decode cX11_plan 33 = .ok (.invokevirtual 158, 3) := by decide +kernel
theorem dX11_plan_36 : decode cX11_plan 36 = .ok (.istore_n 3, 1) := by decide +kernel
theorem dX11_plan_37 : decode cX11_plan 37 = .ok (.iload_n 3, 1) := by decide +kernel
theorem dX11_plan_38 : decode cX11_plan 38 = .ok (.iconst (-1), 1) := by decide +kernel
theorem dX11_plan_39 : decode cX11_plan 39 = .ok (.if_icmp .eq 8, 3) := by decide +kernel
theorem dX11_plan_42 : decode cX11_plan 42 = .ok (.iload_n 2, 1) := by decide +kernel
theorem dX11_plan_43 : decode cX11_plan 43 = .ok (.iconst (-1), 1) := by decide +kernel
theorem dX11_plan_44 : decode cX11_plan 44 = .ok (.if_icmp .ne 5, 3) := by decide +kernel
theorem dX11_plan_47 : decode cX11_plan 47 = .ok (.iload_n 3, 1) := by decide +kernel
theorem dX11_plan_48 : decode cX11_plan 48 = .ok (.ireturn, 1) := by decide +kernel
theorem dX11_plan_49 : decode cX11_plan 49 = .ok (.iload_n 2, 1) := by decide +kernel
theorem dX11_plan_50 : decode cX11_plan 50 = .ok (.iload_n 1, 1) := by decide +kernel
theorem dX11_plan_51 : decode cX11_plan 51 = .ok (.if_icmp .ge 14, 3) := by decide +kernel
theorem dX11_plan_54 : decode cX11_plan 54 = .ok (.aload_n 0, 1) := by decide +kernel
theorem dX11_plan_55 : decode cX11_plan 55 = .ok (.getfield 56, 3) := by decide +kernel
theorem dX11_plan_58 : decode cX11_plan 58 = .ok (.iload_n 2, 1) := by decide +kernel
theorem dX11_plan_59 : decode cX11_plan 59 = .ok (.invokevirtual 162, 3) := by decide +kernel
theorem dX11_plan_62 : decode cX11_plan 62 = .ok (.goto 5, 3) := by decide +kernel
theorem dX11_plan_65 : decode cX11_plan 65 = .ok (.bipush (-5), 2) := by decide +kernel
theorem dX11_plan_67 : decode cX11_plan 67 = .ok (.ireturn, 1) := by decide +kernel
theorem dX11_want_0 : decode cX11_want 0 = .ok (.iload_n 1, 1) := by decide +kernel
theorem dX11_want_1 : decode cX11_want 1 = .ok (.iconst 0, 1) := by decide +kernel
theorem dX11_want_2 : decode cX11_want 2 = .ok (.sipush 200, 3) := by decide +kernel
theorem dX11_want_5 : decode cX11_want 5 = .ok (.invokestatic 64, 3) := by decide +kernel
theorem dX11_want_8 : decode cX11_want 8 = .ok (.ifCond .ne 10, 3) := by decide +kernel
theorem dX11_want_11 : decode cX11_want 11 = .ok (.aload_n 0, 1) := by decide +kernel
theorem dX11_want_12 : decode cX11_want 12 = .ok (.bipush (-2), 2) := by decide +kernel
theorem dX11_want_14 : decode cX11_want 14 = .ok (.invokevirtual 68, 3) := by decide +kernel
theorem dX11_want_17 : decode cX11_want 17 = .ok (.ireturn, 1) := by decide +kernel
theorem dX11_want_18 : decode cX11_want 18 = .ok (.aload_n 0, 1) := by decide +kernel
theorem dX11_want_19 : decode cX11_want 19 = .ok (.getfield 56, 3) := by decide +kernel
theorem dX11_want_22 : decode cX11_want 22 = .ok (.aload_n 0, 1) := by decide +kernel
theorem dX11_want_23 : decode cX11_want 23 = .ok (.getfield 40, 3) := by decide +kernel
theorem dX11_want_26 : decode cX11_want 26 = .ok (.getfield 72, 3) := by decide +kernel
theorem dX11_want_29 : decode cX11_want 29 = .ok (.iload_n 1, 1) := by decide +kernel
theorem dX11_want_30 : decode cX11_want 30 = .ok (.aload_n 0, 1) := by decide +kernel
theorem dX11_want_31 : decode cX11_want 31 = .ok (.getfield 40, 3) := by decide +kernel
theorem dX11_want_34 : decode cX11_want 34 = .ok (.getfield 72, 3) := by decide +kernel
theorem dX11_want_37 : decode cX11_want 37 = .ok (.getfield 165, 3) := by decide +kernel
theorem dX11_want_40 : decode cX11_want 40 = .ok (.invokevirtual 168, 3) := by decide +kernel
theorem dX11_want_43 : decode cX11_want 43 = .ok (.ireturn, 1) := by decide +kernel
theorem dX11_held_0 : decode cX11_held 0 = .ok (.iload_n 1, 1) := by decide +kernel
theorem dX11_held_1 : decode cX11_held 1 = .ok (.iconst 0, 1) := by decide +kernel
theorem dX11_held_2 : decode cX11_held 2 = .ok (.sipush 200, 3) := by decide +kernel
theorem dX11_held_5 : decode cX11_held 5 = .ok (.invokestatic 64, 3) := by decide +kernel
theorem dX11_held_8 : decode cX11_held 8 = .ok (.ifCond .ne 10, 3) := by decide +kernel
theorem dX11_held_11 : decode cX11_held 11 = .ok (.aload_n 0, 1) := by decide +kernel
theorem dX11_held_12 : decode cX11_held 12 = .ok (.bipush (-10), 2) := by decide +kernel
theorem dX11_held_14 : decode cX11_held 14 = .ok (.invokevirtual 68, 3) := by decide +kernel
theorem dX11_held_17 : decode cX11_held 17 = .ok (.ireturn, 1) := by decide +kernel
theorem dX11_held_18 : decode cX11_held 18 = .ok (.aload_n 0, 1) := by decide +kernel
theorem dX11_held_19 : decode cX11_held 19 = .ok (.getfield 56, 3) := by decide +kernel
theorem dX11_held_22 : decode cX11_held 22 = .ok (.aload_n 0, 1) := by decide +kernel
theorem dX11_held_23 : decode cX11_held 23 = .ok (.getfield 40, 3) := by decide +kernel
theorem dX11_held_26 : decode cX11_held 26 = .ok (.getfield 72, 3) := by decide +kernel
theorem dX11_held_29 : decode cX11_held 29 = .ok (.iload_n 1, 1) := by decide +kernel
theorem dX11_held_30 : decode cX11_held 30 = .ok (.invokevirtual 172, 3) := by decide +kernel
theorem dX11_held_33 : decode cX11_held 33 = .ok (.ireturn, 1) := by decide +kernel
theorem dX11_teachers_0 : decode cX11_teachers 0 = .ok (.iload_n 1, 1) := by decide +kernel
theorem dX11_teachers_1 : decode cX11_teachers 1 = .ok (.iconst 0, 1) := by decide +kernel
theorem dX11_teachers_2 : decode cX11_teachers 2 = .ok (.bipush 60, 2) := by decide +kernel
theorem dX11_teachers_4 : decode cX11_teachers 4 = .ok (.invokestatic 64, 3) := by decide +kernel
theorem dX11_teachers_7 : decode cX11_teachers 7 = .ok (.ifCond .ne 10, 3) := by decide +kernel
theorem dX11_teachers_10 : decode cX11_teachers 10 = .ok (.aload_n 0, 1) := by decide +kernel
theorem dX11_teachers_11 : decode cX11_teachers 11 = .ok (.bipush (-2), 2) := by decide +kernel
theorem dX11_teachers_13 : decode cX11_teachers 13 = .ok (.invokevirtual 68, 3) := by decide +kernel
theorem dX11_teachers_16 : decode cX11_teachers 16 = .ok (.ireturn, 1) := by decide +kernel
theorem dX11_teachers_17 : decode cX11_teachers 17 = .ok (.aload_n 0, 1) := by decide +kernel
theorem dX11_teachers_18 : decode cX11_teachers 18 = .ok (.getfield 56, 3) := by decide +kernel
theorem dX11_teachers_21 : decode cX11_teachers 21 = .ok (.aload_n 0, 1) := by decide +kernel
theorem dX11_teachers_22 : decode cX11_teachers 22 = .ok (.getfield 40, 3) := by decide +kernel
theorem dX11_teachers_25 : decode cX11_teachers 25 = .ok (.getfield 72, 3) := by decide +kernel
theorem dX11_teachers_28 : decode cX11_teachers 28 = .ok (.iload_n 1, 1) := by decide +kernel
theorem dX11_teachers_29 : decode cX11_teachers 29 = .ok (.invokevirtual 188, 3) := by decide +kernel
theorem dX11_teachers_32 : decode cX11_teachers 32 = .ok (.ireturn, 1) := by decide +kernel
theorem dX11_debt_0 : decode cX11_debt 0 = .ok (.aload_n 0, 1) := by decide +kernel
theorem dX11_debt_1 : decode cX11_debt 1 = .ok (.iload_n 1, 1) := by decide +kernel
theorem dX11_debt_2 : decode cX11_debt 2 = .ok (.invokevirtual 104, 3) := by decide +kernel
theorem dX11_debt_5 : decode cX11_debt 5 = .ok (.ifCond .eq 16, 3) := by decide +kernel
theorem dX11_debt_8 : decode cX11_debt 8 = .ok (.aload_n 0, 1) := by decide +kernel
theorem dX11_debt_9 : decode cX11_debt 9 = .ok (.iload_n 2, 1) := by decide +kernel
theorem dX11_debt_10 : decode cX11_debt 10 = .ok (.invokevirtual 104, 3) := by decide +kernel
theorem dX11_debt_13 : decode cX11_debt 13 = .ok (.ifCond .eq 8, 3) := by decide +kernel
theorem dX11_debt_16 : decode cX11_debt 16 = .ok (.iload_n 1, 1) := by decide +kernel
theorem dX11_debt_17 : decode cX11_debt 17 = .ok (.iload_n 2, 1) := by decide +kernel
theorem dX11_debt_18 : decode cX11_debt 18 = .ok (.if_icmp .ne 10, 3) := by decide +kernel
theorem dX11_debt_21 : decode cX11_debt 21 = .ok (.aload_n 0, 1) := by decide +kernel
theorem dX11_debt_22 : decode cX11_debt 22 = .ok (.bipush (-2), 2) := by decide +kernel
theorem dX11_debt_24 : decode cX11_debt 24 = .ok (.invokevirtual 68, 3) := by decide +kernel
theorem dX11_debt_27 : decode cX11_debt 27 = .ok (.ireturn, 1) := by decide +kernel
theorem dX11_debt_28 : decode cX11_debt 28 = .ok (.iload_n 3, 1) := by decide +kernel
theorem dX11_debt_29 : decode cX11_debt 29 = .ok (.iconst 1, 1) := by decide +kernel
theorem dX11_debt_30 : decode cX11_debt 30 = .ok (.sipush 999, 3) := by decide +kernel
theorem dX11_debt_33 : decode cX11_debt 33 = .ok (.invokestatic 64, 3) := by decide +kernel
theorem dX11_debt_36 : decode cX11_debt 36 = .ok (.ifCond .ne 10, 3) := by decide +kernel
theorem dX11_debt_39 : decode cX11_debt 39 = .ok (.aload_n 0, 1) := by decide +kernel
theorem dX11_debt_40 : decode cX11_debt 40 = .ok (.bipush (-2), 2) := by decide +kernel
theorem dX11_debt_42 : decode cX11_debt 42 = .ok (.invokevirtual 68, 3) := by decide +kernel
theorem dX11_debt_45 : decode cX11_debt 45 = .ok (.ireturn, 1) := by decide +kernel
theorem dX11_debt_46 : decode cX11_debt 46 = .ok (.aload_n 0, 1) := by decide +kernel
theorem dX11_debt_47 : decode cX11_debt 47 = .ok (.getfield 40, 3) := by decide +kernel
theorem dX11_debt_50 : decode cX11_debt 50 = .ok (.getfield 191, 3) := by decide +kernel
theorem dX11_debt_53 : decode cX11_debt 53 = .ok (.getfield 195, 3) := by decide +kernel
theorem dX11_debt_56 : decode cX11_debt 56 = .ok (.bipush 8, 2) := by decide +kernel
theorem dX11_debt_58 : decode cX11_debt 58 = .ok (.if_icmp .lt 8, 3) := by decide +kernel
theorem dX11_debt_61 : decode cX11_debt 61 = .ok (.aload_n 0, 1) := by decide +kernel
theorem dX11_debt_62 : decode cX11_debt 62 = .ok (.invokevirtual 96, 3) := by decide +kernel
theorem dX11_debt_65 : decode cX11_debt 65 = .ok (.ireturn, 1) := by decide +kernel
theorem dX11_debt_66 : decode cX11_debt 66 = .ok (.aload_n 0, 1) := by decide +kernel
theorem dX11_debt_67 : decode cX11_debt 67 = .ok (.getfield 40, 3) := by decide +kernel
theorem dX11_debt_70 : decode cX11_debt 70 = .ok (.getfield 191, 3) := by decide +kernel
theorem dX11_debt_73 : decode cX11_debt 73 = .ok (.iload_n 1, 1) := by decide +kernel
theorem dX11_debt_74 : decode cX11_debt 74 = .ok (.iload_n 2, 1) := by decide +kernel
theorem dX11_debt_75 : decode cX11_debt 75 = .ok (.iload_n 3, 1) := by decide +kernel
theorem dX11_debt_76 : decode cX11_debt 76 = .ok (.invokevirtual 200, 3) := by decide +kernel
theorem dX11_debt_79 : decode cX11_debt 79 = .ok (.ireturn, 1) := by decide +kernel
theorem dX11_net_0 : decode cX11_net 0 = .ok (.aload_n 0, 1) := by decide +kernel
theorem dX11_net_1 : decode cX11_net 1 = .ok (.iload_n 1, 1) := by decide +kernel
theorem dX11_net_2 : decode cX11_net 2 = .ok (.invokevirtual 104, 3) := by decide +kernel
theorem dX11_net_5 : decode cX11_net 5 = .ok (.ifCond .ne 10, 3) := by decide +kernel
theorem dX11_net_8 : decode cX11_net 8 = .ok (.aload_n 0, 1) := by decide +kernel
theorem dX11_net_9 : decode cX11_net 9 = .ok (.ldc 206, 2) := by decide +kernel
theorem dX11_net_11 : decode cX11_net 11 = .ok (.invokevirtual 68, 3) := by decide +kernel
theorem dX11_net_14 : decode cX11_net 14 = .ok (.ireturn, 1) := by decide +kernel
theorem dX11_net_15 : decode cX11_net 15 = .ok (.aload_n 0, 1) := by decide +kernel
theorem dX11_net_16 : decode cX11_net 16 = .ok (.getfield 40, 3) := by decide +kernel
theorem dX11_net_19 : decode cX11_net 19 = .ok (.getfield 191, 3) := by decide +kernel
theorem dX11_net_22 : decode cX11_net 22 = .ok (.iload_n 1, 1) := by decide +kernel
theorem dX11_net_23 : decode cX11_net 23 = .ok (.aload_n 0, 1) := by decide +kernel
theorem dX11_net_24 : decode cX11_net 24 = .ok (.getfield 40, 3) := by decide +kernel
theorem dX11_net_27 : decode cX11_net 27 = .ok (.getfield 72, 3) := by decide +kernel
theorem dX11_net_30 : decode cX11_net 30 = .ok (.invokevirtual 207, 3) := by decide +kernel
theorem dX11_net_33 : decode cX11_net 33 = .ok (.invokevirtual 210, 3) := by decide +kernel
theorem dX11_net_36 : decode cX11_net 36 = .ok (.ireturn, 1) := by decide +kernel
theorem dX11_cleared_0 : decode cX11_cleared 0 = .ok (.aload_n 0, 1) := by decide +kernel
theorem dX11_cleared_1 : decode cX11_cleared 1 = .ok (.getfield 56, 3) := by decide +kernel
theorem dX11_cleared_4 : decode cX11_cleared 4 = .ok (.aload_n 0, 1) := by decide +kernel
theorem dX11_cleared_5 : decode cX11_cleared 5 = .ok (.getfield 40, 3) := by decide +kernel
theorem dX11_cleared_8 : decode cX11_cleared 8 = .ok (.invokevirtual 214, 3) := by decide +kernel
theorem dX11_cleared_11 : decode cX11_cleared 11 = .ok (.ireturn, 1) := by decide +kernel
theorem dX11_lots_0 : decode cX11_lots 0 = .ok (.aload_n 0, 1) := by decide +kernel
theorem dX11_lots_1 : decode cX11_lots 1 = .ok (.getfield 40, 3) := by decide +kernel
theorem dX11_lots_4 : decode cX11_lots 4 = .ok (.getfield 72, 3) := by decide +kernel
theorem dX11_lots_7 : decode cX11_lots 7 = .ok (.getfield 93, 3) := by decide +kernel
theorem dX11_lots_10 : decode cX11_lots 10 = .ok (.istore_n 3, 1) := by decide +kernel
theorem dX11_lots_11 : decode cX11_lots 11 = .ok (.iload_n 1, 1) := by decide +kernel
theorem dX11_lots_12 : decode cX11_lots 12 = .ok (.iconst 0, 1) := by decide +kernel
theorem dX11_lots_13 : decode cX11_lots 13 = .ok (.ldc 235, 2) := by decide +kernel
theorem dX11_lots_15 : decode cX11_lots 15 = .ok (.invokestatic 64, 3) := by decide +kernel
theorem dX11_lots_18 : decode cX11_lots 18 = .ok (.ifCond .eq 12, 3) := by decide +kernel
theorem dX11_lots_21 : decode cX11_lots 21 = .ok (.iload_n 2, 1) := by decide +kernel
theorem dX11_lots_22 : decode cX11_lots 22 = .ok (.iconst 0, 1) := by decide +kernel
theorem dX11_lots_23 : decode cX11_lots 23 = .ok (.iload_n 3, 1) := by decide +kernel
theorem dX11_lots_24 : decode cX11_lots 24 = .ok (.invokestatic 64, 3) := by decide +kernel
theorem dX11_lots_27 : decode cX11_lots 27 = .ok (.ifCond .ne 10, 3) := by decide +kernel
theorem dX11_lots_30 : decode cX11_lots 30 = .ok (.aload_n 0, 1) := by decide +kernel
theorem dX11_lots_31 : decode cX11_lots 31 = .ok (.bipush (-2), 2) := by decide +kernel
theorem dX11_lots_33 : decode cX11_lots 33 = .ok (.invokevirtual 68, 3) := by decide +kernel
theorem dX11_lots_36 : decode cX11_lots 36 = .ok (.ireturn, 1) := by decide +kernel
theorem dX11_lots_37 : decode cX11_lots 37 = .ok (.iload_n 1, 1) := by decide +kernel
theorem dX11_lots_38 : decode cX11_lots 38 = .ok (.i2l, 1) := by decide +kernel
theorem dX11_lots_39 : decode cX11_lots 39 = .ok (.lstore 4, 2) := by decide +kernel
theorem dX11_lots_41 : decode cX11_lots 41 = .ok (.iconst 0, 1) := by decide +kernel
theorem dX11_lots_42 : decode cX11_lots 42 = .ok (.istore 6, 2) := by decide +kernel
theorem dX11_lots_44 : decode cX11_lots 44 = .ok (.iconst 0, 1) := by decide +kernel
theorem dX11_lots_45 : decode cX11_lots 45 = .ok (.istore 7, 2) := by decide +kernel
theorem dX11_lots_47 : decode cX11_lots 47 = .ok (.iload 7, 2) := by decide +kernel
theorem dX11_lots_49 : decode cX11_lots 49 = .ok (.iload_n 2, 1) := by decide +kernel
theorem dX11_lots_50 : decode cX11_lots 50 = .ok (.if_icmp .ge 56, 3) := by decide +kernel
theorem dX11_lots_53 : decode cX11_lots 53 = .ok (.lload 4, 2) := by decide +kernel
theorem dX11_lots_55 : decode cX11_lots 55 = .ok (.ldc2_w 236, 3) := by decide +kernel
theorem dX11_lots_58 : decode cX11_lots 58 = .ok (.lmul, 1) := by decide +kernel
theorem dX11_lots_59 : decode cX11_lots 59 = .ok (.ldc2_w 238, 3) := by decide +kernel
theorem dX11_lots_62 : decode cX11_lots 62 = .ok (.ladd, 1) := by decide +kernel
theorem dX11_lots_63 : decode cX11_lots 63 = .ok (.ldc2_w 240, 3) := by decide +kernel
theorem dX11_lots_66 : decode cX11_lots 66 = .ok (.lrem, 1) := by decide +kernel
theorem dX11_lots_67 : decode cX11_lots 67 = .ok (.lstore 4, 2) := by decide +kernel
theorem dX11_lots_69 : decode cX11_lots 69 = .ok (.lload 4, 2) := by decide +kernel
theorem dX11_lots_71 : decode cX11_lots 71 = .ok (.ldc2_w 242, 3) := by decide +kernel
theorem dX11_lots_74 : decode cX11_lots 74 = .ok (.ldiv, 1) := by decide +kernel
theorem dX11_lots_75 : decode cX11_lots 75 = .ok (.l2i, 1) := by decide +kernel
theorem dX11_lots_76 : decode cX11_lots 76 = .ok (.iload_n 3, 1) := by decide +kernel
theorem dX11_lots_77 : decode cX11_lots 77 = .ok (.iload 7, 2) := by decide +kernel
theorem dX11_lots_79 : decode cX11_lots 79 = .ok (.isub, 1) := by decide +kernel
theorem dX11_lots_80 : decode cX11_lots 80 = .ok (.invokestatic 244, 3) := by decide +kernel
theorem dX11_lots_83 : decode cX11_lots 83 = .ok (.istore 8, 2) := by decide +kernel
theorem dX11_lots_85 : decode cX11_lots 85 = .ok (.iload 6, 2) := by decide +kernel
theorem dX11_lots_87 : decode cX11_lots 87 = .ok (.iconst 1, 1) := by decide +kernel
theorem dX11_lots_88 : decode cX11_lots 88 = .ok (.iload 6, 2) := by decide +kernel
theorem dX11_lots_90 : decode cX11_lots 90 = .ok (.iload 8, 2) := by decide +kernel
theorem dX11_lots_92 : decode cX11_lots 92 = .ok (.iload_n 3, 1) := by decide +kernel
theorem dX11_lots_93 : decode cX11_lots 93 = .ok (.invokestatic 247, 3) := by decide +kernel
theorem dX11_lots_96 : decode cX11_lots 96 = .ok (.ishl, 1) := by decide +kernel
theorem dX11_lots_97 : decode cX11_lots 97 = .ok (.ior, 1) := by decide +kernel
theorem dX11_lots_98 : decode cX11_lots 98 = .ok (.istore 6, 2) := by decide +kernel
theorem dX11_lots_100 : decode cX11_lots 100 = .ok (.iinc 7 1, 3) := by decide +kernel
theorem dX11_lots_103 : decode cX11_lots 103 = .ok (.goto (-56), 3) := by decide +kernel
theorem dX11_lots_106 : decode cX11_lots 106 = .ok (.iload 6, 2) := by decide +kernel
theorem dX11_lots_108 : decode cX11_lots 108 = .ok (.ireturn, 1) := by decide +kernel
theorem dX11_image_0 : decode cX11_image 0 = .ok (.iload_n 1, 1) := by decide +kernel
theorem dX11_image_1 : decode cX11_image 1 = .ok (.iconst 0, 1) := by decide +kernel
theorem dX11_image_2 : decode cX11_image 2 = .ok (.iconst 1, 1) := by decide +kernel
theorem dX11_image_3 : decode cX11_image 3 = .ok (.invokestatic 64, 3) := by decide +kernel
theorem dX11_image_6 : decode cX11_image 6 = .ok (.ifCond .ne 10, 3) := by decide +kernel
theorem dX11_image_9 : decode cX11_image 9 = .ok (.aload_n 0, 1) := by decide +kernel
theorem dX11_image_10 : decode cX11_image 10 = .ok (.bipush (-2), 2) := by decide +kernel
theorem dX11_image_12 : decode cX11_image 12 = .ok (.invokevirtual 68, 3) := by decide +kernel
theorem dX11_image_15 : decode cX11_image 15 = .ok (.ireturn, 1) := by decide +kernel
theorem dX11_image_16 : decode cX11_image 16 = .ok (.aload_n 0, 1) := by decide +kernel
theorem dX11_image_17 : decode cX11_image 17 = .ok (.iload_n 1, 1) := by decide +kernel
theorem dX11_image_18 : decode cX11_image 18 = .ok (.invokevirtual 287, 3) := by decide +kernel
theorem dX11_image_21 : decode cX11_image 21 = .ok (.aload_n 0, 1) := by decide +kernel
theorem dX11_image_22 : decode cX11_image 22 = .ok (.getfield 40, 3) := by decide +kernel
theorem dX11_image_25 : decode cX11_image 25 = .ok (.invokevirtual 125, 3) := by decide +kernel
theorem dX11_image_28 : decode cX11_image 28 = .ok (.aload_n 0, 1) := by decide +kernel
theorem dX11_image_29 : decode cX11_image 29 = .ok (.dup, 1) := by decide +kernel
theorem dX11_image_30 : decode cX11_image 30 = .ok (.getfield 291, 3) := by decide +kernel
theorem dX11_image_33 : decode cX11_image 33 = .ok (.iconst 1, 1) := by decide +kernel
theorem dX11_image_34 : decode cX11_image 34 = .ok (.iload_n 1, 1) := by decide +kernel
theorem dX11_image_35 : decode cX11_image 35 = .ok (.ishl, 1) := by decide +kernel
theorem dX11_image_36 : decode cX11_image 36 = .ok (.ior, 1) := by decide +kernel
theorem dX11_image_37 : decode cX11_image 37 = .ok (.putfield 291, 3) := by decide +kernel
theorem dX11_image_40 : decode cX11_image 40 = .ok (.iconst 1, 1) := by decide +kernel
theorem dX11_image_41 : decode cX11_image 41 = .ok (.ireturn, 1) := by decide +kernel
theorem dX11_from_0 : decode cX11_from 0 = .ok (.iload_n 1, 1) := by decide +kernel
theorem dX11_from_1 : decode cX11_from 1 = .ok (.iconst 0, 1) := by decide +kernel
theorem dX11_from_2 : decode cX11_from 2 = .ok (.iconst 1, 1) := by decide +kernel
theorem dX11_from_3 : decode cX11_from 3 = .ok (.invokestatic 64, 3) := by decide +kernel
theorem dX11_from_6 : decode cX11_from 6 = .ok (.ifCond .ne 10, 3) := by decide +kernel
theorem dX11_from_9 : decode cX11_from 9 = .ok (.aload_n 0, 1) := by decide +kernel
theorem dX11_from_10 : decode cX11_from 10 = .ok (.bipush (-2), 2) := by decide +kernel
theorem dX11_from_12 : decode cX11_from 12 = .ok (.invokevirtual 68, 3) := by decide +kernel
theorem dX11_from_15 : decode cX11_from 15 = .ok (.ireturn, 1) := by decide +kernel
theorem dX11_from_16 : decode cX11_from 16 = .ok (.aload_n 0, 1) := by decide +kernel
theorem dX11_from_17 : decode cX11_from 17 = .ok (.getfield 291, 3) := by decide +kernel
theorem dX11_from_20 : decode cX11_from 20 = .ok (.iload_n 1, 1) := by decide +kernel
theorem dX11_from_21 : decode cX11_from 21 = .ok (.ishr, 1) := by decide +kernel
theorem dX11_from_22 : decode cX11_from 22 = .ok (.iconst 1, 1) := by decide +kernel
theorem dX11_from_23 : decode cX11_from 23 = .ok (.iand, 1) := by decide +kernel
theorem dX11_from_24 : decode cX11_from 24 = .ok (.ifCond .ne 8, 3) := by decide +kernel
theorem dX11_from_27 : decode cX11_from 27 = .ok (.aload_n 0, 1) := by decide +kernel
theorem dX11_from_28 : decode cX11_from 28 = .ok (.invokevirtual 136, 3) := by decide +kernel
theorem dX11_from_31 : decode cX11_from 31 = .ok (.ireturn, 1) := by decide +kernel
theorem dX11_from_32 : decode cX11_from 32 = .ok (.aload_n 0, 1) := by decide +kernel
theorem dX11_from_33 : decode cX11_from 33 = .ok (.getfield 40, 3) := by decide +kernel
theorem dX11_from_36 : decode cX11_from 36 = .ok (.aload_n 0, 1) := by decide +kernel
theorem dX11_from_37 : decode cX11_from 37 = .ok (.iload_n 1, 1) := by decide +kernel
theorem dX11_from_38 : decode cX11_from 38 = .ok (.invokevirtual 287, 3) := by decide +kernel
theorem dX11_from_41 : decode cX11_from 41 = .ok (.invokevirtual 125, 3) := by decide +kernel
theorem dX11_from_44 : decode cX11_from 44 = .ok (.iconst 1, 1) := by decide +kernel
theorem dX11_from_45 : decode cX11_from 45 = .ok (.ireturn, 1) := by decide +kernel
theorem dX11_count_0 : decode cX11_count 0 = .ok (.iload_n 1, 1) := by decide +kernel
theorem dX11_count_1 : decode cX11_count 1 = .ok (.iconst 0, 1) := by decide +kernel
theorem dX11_count_2 : decode cX11_count 2 = .ok (.bipush 13, 2) := by decide +kernel
theorem dX11_count_4 : decode cX11_count 4 = .ok (.invokestatic 64, 3) := by decide +kernel
theorem dX11_count_7 : decode cX11_count 7 = .ok (.ifCond .eq 11, 3) := by decide +kernel
theorem dX11_count_10 : decode cX11_count 10 = .ok (.aload_n 0, 1) := by decide +kernel
theorem dX11_count_11 : decode cX11_count 11 = .ok (.iload_n 1, 1) := by decide +kernel
theorem dX11_count_12 : decode cX11_count 12 = .ok (.invokevirtual 303, 3) := by decide +kernel
theorem dX11_count_15 : decode cX11_count 15 = .ok (.goto 9, 3) := by decide +kernel
theorem dX11_count_18 : decode cX11_count 18 = .ok (.aload_n 0, 1) := by decide +kernel
theorem dX11_count_19 : decode cX11_count 19 = .ok (.bipush (-2), 2) := by decide +kernel
theorem dX11_count_21 : decode cX11_count 21 = .ok (.invokevirtual 68, 3) := by decide +kernel
theorem dX11_count_24 : decode cX11_count 24 = .ok (.ireturn, 1) := by decide +kernel
theorem dX11_refuseBad_0 : decode cX11_refuseBad 0 = .ok (.aload_n 0, 1) := by decide +kernel
theorem dX11_refuseBad_1 : decode cX11_refuseBad 1 = .ok (.dup, 1) := by decide +kernel
theorem dX11_refuseBad_2 : decode cX11_refuseBad 2 = .ok (.getfield 294, 3) := by decide +kernel
theorem dX11_refuseBad_5 : decode cX11_refuseBad 5 = .ok (.iconst 1, 1) := by decide +kernel
theorem dX11_refuseBad_6 : decode cX11_refuseBad 6 = .ok (.iadd, 1) := by decide +kernel
theorem dX11_refuseBad_7 : decode cX11_refuseBad 7 = .ok (.putfield 294, 3) := by decide +kernel
theorem dX11_refuseBad_10 : decode cX11_refuseBad 10 = .ok (.iload_n 1, 1) := by decide +kernel
theorem dX11_refuseBad_11 : decode cX11_refuseBad 11 = .ok (.ireturn, 1) := by decide +kernel
theorem dX11_refuseNo_0 : decode cX11_refuseNo 0 = .ok (.aload_n 0, 1) := by decide +kernel
theorem dX11_refuseNo_1 : decode cX11_refuseNo 1 = .ok (.dup, 1) := by decide +kernel
theorem dX11_refuseNo_2 : decode cX11_refuseNo 2 = .ok (.getfield 297, 3) := by decide +kernel
