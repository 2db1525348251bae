-- printed decode rows
theorem dX0_init_0 : decode cX0_init 0 = .ok (.aload_n 0, 1) := by decide +kernel
theorem dX0_init_1 : decode cX0_init 1 = .ok (.invokespecial 3, 3) := by decide +kernel
theorem dX0_init_4 : decode cX0_init 4 = .ok (.aload_n 0, 1) := by decide +kernel
theorem dX0_init_5 : decode cX0_init 5 = .ok (.bipush 30, 2) := by decide +kernel
theorem dX0_init_7 : decode cX0_init 7 = .ok (.newarray .int, 2) := by decide +kernel
theorem dX0_init_9 : decode cX0_init 9 = .ok (.putfield 9, 3) := by decide +kernel
theorem dX0_init_12 : decode cX0_init 12 = .ok (.aload_n 0, 1) := by decide +kernel
theorem dX0_init_13 : decode cX0_init 13 = .ok (.bipush 30, 2) := by decide +kernel
theorem dX0_init_15 : decode cX0_init 15 = .ok (.newarray .int, 2) := by decide +kernel
theorem dX0_init_17 : decode cX0_init 17 = .ok (.putfield 15, 3) := by decide +kernel
theorem dX0_init_20 : decode cX0_init 20 = .ok (.aload_n 0, 1) := by decide +kernel
theorem dX0_init_21 : decode cX0_init 21 = .ok (.bipush 30, 2) := by decide +kernel
theorem dX0_init_23 : decode cX0_init 23 = .ok (.newarray .int, 2) := by decide +kernel
theorem dX0_init_25 : decode cX0_init 25 = .ok (.putfield 18, 3) := by decide +kernel
theorem dX0_init_28 : decode cX0_init 28 = .ok (.aload_n 0, 1) := by decide +kernel
theorem dX0_init_29 : decode cX0_init 29 = .ok (.bipush 30, 2) := by decide +kernel
theorem dX0_init_31 : decode cX0_init 31 = .ok (.newarray .int, 2) := by decide +kernel
theorem dX0_init_33 : decode cX0_init 33 = .ok (.putfield 21, 3) := by decide +kernel
theorem dX0_init_36 : decode cX0_init 36 = .ok (.aload_n 0, 1) := by decide +kernel
theorem dX0_init_37 : decode cX0_init 37 = .ok (.bipush 37, 2) := by decide +kernel
theorem dX0_init_39 : decode cX0_init 39 = .ok (.newarray .int, 2) := by decide +kernel
theorem dX0_init_41 : decode cX0_init 41 = .ok (.putfield 24, 3) := by decide +kernel
theorem dX0_init_44 : decode cX0_init 44 = .ok (.aload_n 0, 1) := by decide +kernel
theorem dX0_init_45 : decode cX0_init 45 = .ok (.bipush 60, 2) := by decide +kernel
theorem dX0_init_47 : decode cX0_init 47 = .ok (.newarray .int, 2) := by decide +kernel
theorem dX0_init_49 : decode cX0_init 49 = .ok (.putfield 27, 3) := by decide +kernel
theorem dX0_init_52 : decode cX0_init 52 = .ok (.aload_n 0, 1) := by decide +kernel
theorem dX0_init_53 : decode cX0_init 53 = .ok (.getfield 24, 3) := by decide +kernel
theorem dX0_init_56 : decode cX0_init 56 = .ok (.iconst (-1), 1) := by decide +kernel
theorem dX0_init_57 : decode cX0_init 57 = .ok (.invokestatic 30, 3) := by decide +kernel
theorem dX0_init_60 : decode cX0_init 60 = .ok (.aload_n 0, 1) := by decide +kernel
theorem dX0_init_61 : decode cX0_init 61 = .ok (.getfield 27, 3) := by decide +kernel
theorem dX0_init_64 : decode cX0_init 64 = .ok (.iconst (-1), 1) := by decide +kernel
theorem dX0_init_65 : decode cX0_init 65 = .ok (.invokestatic 30, 3) := by decide +kernel
theorem dX0_init_68 : decode cX0_init 68 = .ok (.return_, 1) := by decide +kernel
theorem dX0_copyFrom_0 : decode cX0_copyFrom 0 = .ok (.aload_n 1, 1) := by decide +kernel
theorem dX0_copyFrom_1 : decode cX0_copyFrom 1 = .ok (.getfield 9, 3) := by decide +kernel
theorem dX0_copyFrom_4 : decode cX0_copyFrom 4 = .ok (.aload_n 0, 1) := by decide +kernel
theorem dX0_copyFrom_5 : decode cX0_copyFrom 5 = .ok (.getfield 9, 3) := by decide +kernel
theorem dX0_copyFrom_8 : decode cX0_copyFrom 8 = .ok (.invokestatic 36, 3) := by decide +kernel
theorem dX0_copyFrom_11 : decode cX0_copyFrom 11 = .ok (.aload_n 1, 1) := by decide +kernel
theorem dX0_copyFrom_12 : decode cX0_copyFrom 12 = .ok (.getfield 15, 3) := by decide +kernel
theorem dX0_copyFrom_15 : decode cX0_copyFrom 15 = .ok (.aload_n 0, 1) := by decide +kernel
theorem dX0_copyFrom_16 : decode cX0_copyFrom 16 = .ok (.getfield 15, 3) := by decide +kernel
theorem dX0_copyFrom_19 : decode cX0_copyFrom 19 = .ok (.invokestatic 36, 3) := by decide +kernel
theorem dX0_copyFrom_22 : decode cX0_copyFrom 22 = .ok (.aload_n 1, 1) := by decide +kernel
theorem dX0_copyFrom_23 : decode cX0_copyFrom 23 = .ok (.getfield 18, 3) := by decide +kernel
theorem dX0_copyFrom_26 : decode cX0_copyFrom 26 = .ok (.aload_n 0, 1) := by decide +kernel
theorem dX0_copyFrom_27 : decode cX0_copyFrom 27 = .ok (.getfield 18, 3) := by decide +kernel
theorem dX0_copyFrom_30 : decode cX0_copyFrom 30 = .ok (.invokestatic 36, 3) := by decide +kernel
theorem dX0_copyFrom_33 : decode cX0_copyFrom 33 = .ok (.aload_n 1, 1) := by decide +kernel
theorem dX0_copyFrom_34 : decode cX0_copyFrom 34 = .ok (.getfield 21, 3) := by decide +kernel
theorem dX0_copyFrom_37 : decode cX0_copyFrom 37 = .ok (.aload_n 0, 1) := by decide +kernel
theorem dX0_copyFrom_38 : decode cX0_copyFrom 38 = .ok (.getfield 21, 3) := by decide +kernel
theorem dX0_copyFrom_41 : decode cX0_copyFrom 41 = .ok (.invokestatic 36, 3) := by decide +kernel
theorem dX0_copyFrom_44 : decode cX0_copyFrom 44 = .ok (.aload_n 1, 1) := by decide +kernel
theorem dX0_copyFrom_45 : decode cX0_copyFrom 45 = .ok (.getfield 24, 3) := by decide +kernel
theorem dX0_copyFrom_48 : decode cX0_copyFrom 48 = .ok (.aload_n 0, 1) := by decide +kernel
theorem dX0_copyFrom_49 : decode cX0_copyFrom 49 = .ok (.getfield 24, 3) := by decide +kernel
theorem dX0_copyFrom_52 : decode cX0_copyFrom 52 = .ok (.invokestatic 36, 3) := by decide +kernel
theorem dX0_copyFrom_55 : decode cX0_copyFrom 55 = .ok (.aload_n 1, 1) := by decide +kernel
theorem dX0_copyFrom_56 : decode cX0_copyFrom 56 = .ok (.getfield 27, 3) := by decide +kernel
theorem dX0_copyFrom_59 : decode cX0_copyFrom 59 = .ok (.aload_n 0, 1) := by decide +kernel
theorem dX0_copyFrom_60 : decode cX0_copyFrom 60 = .ok (.getfield 27, 3) := by decide +kernel
theorem dX0_copyFrom_63 : decode cX0_copyFrom 63 = .ok (.invokestatic 36, 3) := by decide +kernel
theorem dX0_copyFrom_66 : decode cX0_copyFrom 66 = .ok (.aload_n 0, 1) := by decide +kernel
theorem dX0_copyFrom_67 : decode cX0_copyFrom 67 = .ok (.aload_n 1, 1) := by decide +kernel
theorem dX0_copyFrom_68 : decode cX0_copyFrom 68 = .ok (.getfield 42, 3) := by decide +kernel
theorem dX0_copyFrom_71 : decode cX0_copyFrom 71 = .ok (.putfield 42, 3) := by decide +kernel
theorem dX0_copyFrom_74 : decode cX0_copyFrom 74 = .ok (.return_, 1) := by decide +kernel
theorem dX0_has_0 : decode cX0_has 0 = .ok (.iload_n 1, 1) := by decide +kernel
theorem dX0_has_1 : decode cX0_has 1 = .ok (.iconst 0, 1) := by decide +kernel
theorem dX0_has_2 : decode cX0_has 2 = .ok (.aload_n 0, 1) := by decide +kernel
theorem dX0_has_3 : decode cX0_has 3 = .ok (.getfield 42, 3) := by decide +kernel
theorem dX0_has_6 : decode cX0_has 6 = .ok (.iconst 1, 1) := by decide +kernel
theorem dX0_has_7 : decode cX0_has 7 = .ok (.isub, 1) := by decide +kernel
theorem dX0_has_8 : decode cX0_has 8 = .ok (.invokestatic 46, 3) := by decide +kernel
theorem dX0_has_11 : decode cX0_has 11 = .ok (.ireturn, 1) := by decide +kernel
theorem dX0_add_0 : decode cX0_add 0 = .ok (.aload_n 0, 1) := by decide +kernel
theorem dX0_add_1 : decode cX0_add 1 = .ok (.getfield 42, 3) := by decide +kernel
theorem dX0_add_4 : decode cX0_add 4 = .ok (.istore_n 3, 1) := by decide +kernel
theorem dX0_add_5 : decode cX0_add 5 = .ok (.iload_n 3, 1) := by decide +kernel
theorem dX0_add_6 : decode cX0_add 6 = .ok (.ifCond .lt 9, 3) := by decide +kernel
theorem dX0_add_9 : decode cX0_add 9 = .ok (.iload_n 3, 1) := by decide +kernel
theorem dX0_add_10 : decode cX0_add 10 = .ok (.bipush 30, 2) := by decide +kernel
theorem dX0_add_12 : decode cX0_add 12 = .ok (.if_icmp .lt 6, 3) := by decide +kernel
theorem dX0_add_15 : decode cX0_add 15 = .ok (.ldc 50, 2) := by decide +kernel
theorem dX0_add_17 : decode cX0_add 17 = .ok (.ireturn, 1) := by decide +kernel
theorem dX0_add_18 : decode cX0_add 18 = .ok (.aload_n 0, 1) := by decide +kernel
theorem dX0_add_19 : decode cX0_add 19 = .ok (.dup, 1) := by decide +kernel
theorem dX0_add_20 : decode cX0_add 20 = .ok (.getfield 42, 3) := by decide +kernel
theorem dX0_add_23 : decode cX0_add 23 = .ok (.iconst 1, 1) := by decide +kernel
theorem dX0_add_24 : decode cX0_add 24 = .ok (.iadd, 1) := by decide +kernel
theorem dX0_add_25 : decode cX0_add 25 = .ok (.putfield 42, 3) := by decide +kernel
theorem dX0_add_28 : decode cX0_add 28 = .ok (.aload_n 0, 1) := by decide +kernel
theorem dX0_add_29 : decode cX0_add 29 = .ok (.getfield 9, 3) := by decide +kernel
theorem dX0_add_32 : decode cX0_add 32 = .ok (.iload_n 3, 1) := by decide +kernel
theorem dX0_add_33 : decode cX0_add 33 = .ok (.iload_n 1, 1) := by decide +kernel
theorem dX0_add_34 : decode cX0_add 34 = .ok (.iastore, 1) := by decide +kernel
theorem dX0_add_35 : decode cX0_add 35 = .ok (.aload_n 0, 1) := by decide +kernel
theorem dX0_add_36 : decode cX0_add 36 = .ok (.getfield 15, 3) := by decide +kernel
theorem dX0_add_39 : decode cX0_add 39 = .ok (.iload_n 3, 1) := by decide +kernel
theorem dX0_add_40 : decode cX0_add 40 = .ok (.iconst 0, 1) := by decide +kernel
theorem dX0_add_41 : decode cX0_add 41 = .ok (.iastore, 1) := by decide +kernel
theorem dX0_add_42 : decode cX0_add 42 = .ok (.aload_n 0, 1) := by decide +kernel
theorem dX0_add_43 : decode cX0_add 43 = .ok (.getfield 18, 3) := by decide +kernel
theorem dX0_add_46 : decode cX0_add 46 = .ok (.iload_n 3, 1) := by decide +kernel
theorem dX0_add_47 : decode cX0_add 47 = .ok (.iconst 0, 1) := by decide +kernel
theorem dX0_add_48 : decode cX0_add 48 = .ok (.iastore, 1) := by decide +kernel
theorem dX0_add_49 : decode cX0_add 49 = .ok (.aload_n 0, 1) := by decide +kernel
theorem dX0_add_50 : decode cX0_add 50 = .ok (.getfield 21, 3) := by decide +kernel
theorem dX0_add_53 : decode cX0_add 53 = .ok (.iload_n 3, 1) := by decide +kernel
theorem dX0_add_54 : decode cX0_add 54 = .ok (.iconst (-1), 1) := by decide +kernel
theorem dX0_add_55 : decode cX0_add 55 = .ok (.iastore, 1) := by decide +kernel
theorem dX0_add_56 : decode cX0_add 56 = .ok (.aload_n 0, 1) := by decide +kernel
theorem dX0_add_57 : decode cX0_add 57 = .ok (.iload_n 3, 1) := by decide +kernel
theorem dX0_add_58 : decode cX0_add 58 = .ok (.iload_n 2, 1) := by decide +kernel
theorem dX0_add_59 : decode cX0_add 59 = .ok (.invokevirtual 51, 3) := by decide +kernel
theorem dX0_add_62 : decode cX0_add 62 = .ok (.iload_n 3, 1) := by decide +kernel
theorem dX0_add_63 : decode cX0_add 63 = .ok (.ireturn, 1) := by decide +kernel
theorem dX0_moveTo_0 : decode cX0_moveTo 0 = .ok (.iload_n 1, 1) := by decide +kernel
theorem dX0_moveTo_1 : decode cX0_moveTo 1 = .ok (.ifCond .lt 12, 3) := by decide +kernel
theorem dX0_moveTo_4 : decode cX0_moveTo 4 = .ok (.iload_n 1, 1) := by decide +kernel
theorem dX0_moveTo_5 : decode cX0_moveTo 5 = .ok (.aload_n 0, 1) := by decide +kernel
theorem dX0_moveTo_6 : decode cX0_moveTo 6 = .ok (.getfield 21, 3) := by decide +kernel
theorem dX0_moveTo_9 : decode cX0_moveTo 9 = .ok (.arraylength, 1) := by decide +kernel
theorem dX0_moveTo_10 : decode cX0_moveTo 10 = .ok (.if_icmp .lt 4, 3) := by decide +kernel
theorem dX0_moveTo_13 : decode cX0_moveTo 13 = .ok (.return_, 1) := by decide +kernel
theorem dX0_moveTo_14 : decode cX0_moveTo 14 = .ok (.aload_n 0, 1) := by decide +kernel
theorem dX0_moveTo_15 : decode cX0_moveTo 15 = .ok (.getfield 21, 3) := by decide +kernel
theorem dX0_moveTo_18 : decode cX0_moveTo 18 = .ok (.iload_n 1, 1) := by decide +kernel
theorem dX0_moveTo_19 : decode cX0_moveTo 19 = .ok (.iaload, 1) := by decide +kernel
theorem dX0_moveTo_20 : decode cX0_moveTo 20 = .ok (.istore_n 3, 1) := by decide +kernel
theorem dX0_moveTo_21 : decode cX0_moveTo 21 = .ok (.iload_n 3, 1) := by decide +kernel
theorem dX0_moveTo_22 : decode cX0_moveTo 22 = .ok (.ifCond .lt 19, 3) := by decide +kernel
theorem dX0_moveTo_25 : decode cX0_moveTo 25 = .ok (.iload_n 3, 1) := by decide +kernel
theorem dX0_moveTo_26 : decode cX0_moveTo 26 = .ok (.aload_n 0, 1) := by decide +kernel
theorem dX0_moveTo_27 : decode cX0_moveTo 27 = .ok (.getfield 24, 3) := by decide +kernel
theorem dX0_moveTo_30 : decode cX0_moveTo 30 = .ok (.arraylength, 1) := by decide +kernel
theorem dX0_moveTo_31 : decode cX0_moveTo 31 = .ok (.if_icmp .ge 10, 3) := by decide +kernel
theorem dX0_moveTo_34 : decode cX0_moveTo 34 = .ok (.aload_n 0, 1) := by decide +kernel
theorem dX0_moveTo_35 : decode cX0_moveTo 35 = .ok (.getfield 24, 3) := by decide +kernel
theorem dX0_moveTo_38 : decode cX0_moveTo 38 = .ok (.iload_n 3, 1) := by decide +kernel
theorem dX0_moveTo_39 : decode cX0_moveTo 39 = .ok (.iconst (-1), 1) := by decide +kernel
theorem dX0_moveTo_40 : decode cX0_moveTo 40 = .ok (.iastore, 1) := by decide +kernel
theorem dX0_moveTo_41 : decode cX0_moveTo 41 = .ok (.aload_n 0, 1) := by decide +kernel
theorem dX0_moveTo_42 : decode cX0_moveTo 42 = .ok (.getfield 21, 3) := by decide +kernel
theorem dX0_moveTo_45 : decode cX0_moveTo 45 = .ok (.iload_n 1, 1) := by decide +kernel
theorem dX0_moveTo_46 : decode cX0_moveTo 46 = .ok (.iload_n 2, 1) := by decide +kernel
theorem dX0_moveTo_47 : decode cX0_moveTo 47 = .ok (.iastore, 1) := by decide +kernel
theorem dX0_moveTo_48 : decode cX0_moveTo 48 = .ok (.iload_n 2, 1) := by decide +kernel
theorem dX0_moveTo_49 : decode cX0_moveTo 49 = .ok (.ifCond .lt 19, 3) := by decide +kernel
theorem dX0_moveTo_52 : decode cX0_moveTo 52 = .ok (.iload_n 2, 1) := by decide +kernel
theorem dX0_moveTo_53 : decode cX0_moveTo 53 = .ok (.aload_n 0, 1) := by decide +kernel
theorem dX0_moveTo_54 : decode cX0_moveTo 54 = .ok (.getfield 24, 3) := by decide +kernel
theorem dX0_moveTo_57 : decode cX0_moveTo 57 = .ok (.arraylength, 1) := by decide +kernel
theorem dX0_moveTo_58 : decode cX0_moveTo 58 = .ok (.if_icmp .ge 10, 3) := by decide +kernel
theorem dX0_moveTo_61 : decode cX0_moveTo 61 = .ok (.aload_n 0, 1) := by decide +kernel
theorem dX0_moveTo_62 : decode cX0_moveTo 62 = .ok (.getfield 24, 3) := by decide +kernel
theorem dX0_moveTo_65 : decode cX0_moveTo 65 = .ok (.iload_n 2, 1) := by decide +kernel
theorem dX0_moveTo_66 : decode cX0_moveTo 66 = .ok (.iload_n 1, 1) := by decide +kernel
theorem dX0_moveTo_67 : decode cX0_moveTo 67 = .ok (.iastore, 1) := by decide +kernel
theorem dX0_moveTo_68 : decode cX0_moveTo 68 = .ok (.return_, 1) := by decide +kernel
theorem dX0_countMounting_0 : decode cX0_countMounting 0 = .ok (.iload_n 1, 1) := by decide +kernel
theorem dX0_countMounting_1 : decode cX0_countMounting 1 = .ok (.ifCond .lt 41, 3) := by decide +kernel
theorem dX0_countMounting_4 : decode cX0_countMounting 4 = .ok (.iload_n 1, 1) := by decide +kernel
theorem dX0_countMounting_5 : decode cX0_countMounting 5 = .ok (.aload_n 0, 1) := by decide +kernel
theorem dX0_countMounting_6 : decode cX0_countMounting 6 = .ok (.getfield 15, 3) := by decide +kernel
theorem dX0_countMounting_9 : decode cX0_countMounting 9 = .ok (.arraylength, 1) := by decide +kernel
theorem dX0_countMounting_10 : decode cX0_countMounting 10 = .ok (.if_icmp .ge 32, 3) := by decide +kernel
theorem dX0_countMounting_13 : decode cX0_countMounting 13 = .ok (.iload_n 1, 1) := by decide +kernel
theorem dX0_countMounting_14 : decode cX0_countMounting 14 = .ok (.aload_n 0, 1) := by decide +kernel
theorem dX0_countMounting_15 : decode cX0_countMounting 15 = .ok (.getfield 18, 3) := by decide +kernel
theorem dX0_countMounting_18 : decode cX0_countMounting 18 = .ok (.arraylength, 1) := by decide +kernel
theorem dX0_countMounting_19 : decode cX0_countMounting 19 = .ok (.if_icmp .ge 23, 3) := by decide +kernel
theorem dX0_countMounting_22 : decode cX0_countMounting 22 = .ok (.aload_n 0, 1) := by decide +kernel
theorem dX0_countMounting_23 : decode cX0_countMounting 23 = .ok (.getfield 15, 3) := by decide +kernel
theorem dX0_countMounting_26 : decode cX0_countMounting 26 = .ok (.iload_n 1, 1) := by decide +kernel
theorem dX0_countMounting_27 : decode cX0_countMounting 27 = .ok (.dup2, 1) := by decide +kernel
theorem dX0_countMounting_28 : decode cX0_countMounting 28 = .ok (.iaload, 1) := by decide +kernel
theorem dX0_countMounting_29 : decode cX0_countMounting 29 = .ok (.iconst 1, 1) := by decide +kernel
theorem dX0_countMounting_30 : decode cX0_countMounting 30 = .ok (.iadd, 1) := by decide +kernel
theorem dX0_countMounting_31 : decode cX0_countMounting 31 = .ok (.iastore, 1) := by decide +kernel
theorem dX0_countMounting_32 : decode cX0_countMounting 32 = .ok (.aload_n 0, 1) := by decide +kernel
theorem dX0_countMounting_33 : decode cX0_countMounting 33 = .ok (.getfield 18, 3) := by decide +kernel
theorem dX0_countMounting_36 : decode cX0_countMounting 36 = .ok (.iload_n 1, 1) := by decide +kernel
theorem dX0_countMounting_37 : decode cX0_countMounting 37 = .ok (.dup2, 1) := by decide +kernel
theorem dX0_countMounting_38 : decode cX0_countMounting 38 = .ok (.iaload, 1) := by decide +kernel
theorem dX0_countMounting_39 : decode cX0_countMounting 39 = .ok (.iload_n 2, 1) := by decide +kernel
theorem dX0_countMounting_40 : decode cX0_countMounting 40 = .ok (.iadd, 1) := by decide +kernel
theorem dX0_countMounting_41 : decode cX0_countMounting 41 = .ok (.iastore, 1) := by decide +kernel
theorem dX0_countMounting_42 : decode cX0_countMounting 42 = .ok (.return_, 1) := by decide +kernel
theorem dX0_putFile_0 : decode cX0_putFile 0 = .ok (.iload_n 2, 1) := by decide +kernel
theorem dX0_putFile_1 : decode cX0_putFile 1 = .ok (.ifCond .lt 19, 3) := by decide +kernel
theorem dX0_putFile_4 : decode cX0_putFile 4 = .ok (.iload_n 2, 1) := by decide +kernel
theorem dX0_putFile_5 : decode cX0_putFile 5 = .ok (.aload_n 0, 1) := by decide +kernel
theorem dX0_putFile_6 : decode cX0_putFile 6 = .ok (.getfield 27, 3) := by decide +kernel
theorem dX0_putFile_9 : decode cX0_putFile 9 = .ok (.arraylength, 1) := by decide +kernel
theorem dX0_putFile_10 : decode cX0_putFile 10 = .ok (.if_icmp .ge 10, 3) := by decide +kernel
theorem dX0_putFile_13 : decode cX0_putFile 13 = .ok (.aload_n 0, 1) := by decide +kernel
theorem dX0_putFile_14 : decode cX0_putFile 14 = .ok (.getfield 27, 3) := by decide +kernel
theorem dX0_putFile_17 : decode cX0_putFile 17 = .ok (.iload_n 2, 1) := by decide +kernel
theorem dX0_putFile_18 : decode cX0_putFile 18 = .ok (.iload_n 1, 1) := by decide +kernel
theorem dX0_putFile_19 : decode cX0_putFile 19 = .ok (.iastore, 1) := by decide +kernel
theorem dX0_putFile_20 : decode cX0_putFile 20 = .ok (.return_, 1) := by decide +kernel
theorem dX0_weightOf_0 : decode cX0_weightOf 0 = .ok (.iload_n 1, 1) := by decide +kernel
theorem dX0_weightOf_1 : decode cX0_weightOf 1 = .ok (.ifCond .lt 21, 3) := by decide +kernel
theorem dX0_weightOf_4 : decode cX0_weightOf 4 = .ok (.iload_n 1, 1) := by decide +kernel
theorem dX0_weightOf_5 : decode cX0_weightOf 5 = .ok (.aload_n 0, 1) := by decide +kernel
theorem dX0_weightOf_6 : decode cX0_weightOf 6 = .ok (.getfield 9, 3) := by decide +kernel
theorem dX0_weightOf_9 : decode cX0_weightOf 9 = .ok (.arraylength, 1) := by decide +kernel
theorem dX0_weightOf_10 : decode cX0_weightOf 10 = .ok (.if_icmp .ge 12, 3) := by decide +kernel
theorem dX0_weightOf_13 : decode cX0_weightOf 13 = .ok (.aload_n 0, 1) := by decide +kernel
theorem dX0_weightOf_14 : decode cX0_weightOf 14 = .ok (.getfield 9, 3) := by decide +kernel
theorem dX0_weightOf_17 : decode cX0_weightOf 17 = .ok (.iload_n 1, 1) := by decide +kernel
theorem dX0_weightOf_18 : decode cX0_weightOf 18 = .ok (.iaload, 1) := by decide +kernel
theorem dX0_weightOf_19 : decode cX0_weightOf 19 = .ok (.goto 4, 3) := by decide +kernel
theorem dX0_weightOf_22 : decode cX0_weightOf 22 = .ok (.iconst 0, 1) := by decide +kernel
theorem dX0_weightOf_23 : decode cX0_weightOf 23 = .ok (.ireturn, 1) := by decide +kernel
theorem dX0_wearOf_0 : decode cX0_wearOf 0 = .ok (.iload_n 1, 1) := by decide +kernel
theorem dX0_wearOf_1 : decode cX0_wearOf 1 = .ok (.ifCond .lt 21, 3) := by decide +kernel
theorem dX0_wearOf_4 : decode cX0_wearOf 4 = .ok (.iload_n 1, 1) := by decide +kernel
theorem dX0_wearOf_5 : decode cX0_wearOf 5 = .ok (.aload_n 0, 1) := by decide +kernel
theorem dX0_wearOf_6 : decode cX0_wearOf 6 = .ok (.getfield 15, 3) := by decide +kernel
theorem dX0_wearOf_9 : decode cX0_wearOf 9 = .ok (.arraylength, 1) := by decide +kernel
theorem dX0_wearOf_10 : decode cX0_wearOf 10 = .ok (.if_icmp .ge 12, 3) := by decide +kernel
theorem dX0_wearOf_13 : decode cX0_wearOf 13 = .ok (.aload_n 0, 1) := by decide +kernel
theorem dX0_wearOf_14 : decode cX0_wearOf 14 = .ok (.getfield 15, 3) := by decide +kernel
theorem dX0_wearOf_17 : decode cX0_wearOf 17 = .ok (.iload_n 1, 1) := by decide +kernel
theorem dX0_wearOf_18 : decode cX0_wearOf 18 = .ok (.iaload, 1) := by decide +kernel
theorem dX0_wearOf_19 : decode cX0_wearOf 19 = .ok (.goto 4, 3) := by decide +kernel
theorem dX0_wearOf_22 : decode cX0_wearOf 22 = .ok (.iconst 0, 1) := by decide +kernel
theorem dX0_wearOf_23 : decode cX0_wearOf 23 = .ok (.ireturn, 1) := by decide +kernel
theorem dX0_servedBy_0 : decode cX0_servedBy 0 = .ok (.iload_n 1, 1) := by decide +kernel
theorem dX0_servedBy_1 : decode cX0_servedBy 1 = .ok (.ifCond .lt 21, 3) := by decide +kernel
theorem dX0_servedBy_4 : decode cX0_servedBy 4 = .ok (.iload_n 1, 1) := by decide +kernel
theorem dX0_servedBy_5 : decode cX0_servedBy 5 = .ok (.aload_n 0, 1) := by decide +kernel
theorem dX0_servedBy_6 : decode cX0_servedBy 6 = .ok (.getfield 18, 3) := by decide +kernel
theorem dX0_servedBy_9 : decode cX0_servedBy 9 = .ok (.arraylength, 1) := by decide +kernel
theorem dX0_servedBy_10 : decode cX0_servedBy 10 = .ok (.if_icmp .ge 12, 3) := by decide +kernel
theorem dX0_servedBy_13 : decode cX0_servedBy 13 = .ok (.aload_n 0, 1) := by decide +kernel
theorem dX0_servedBy_14 : decode cX0_servedBy 14 = .ok (.getfield 18, 3) := by decide +kernel
theorem dX0_servedBy_17 : decode cX0_servedBy 17 = .ok (.iload_n 1, 1) := by decide +kernel
theorem dX0_servedBy_18 : decode cX0_servedBy 18 = .ok (.iaload, 1) := by decide +kernel
theorem dX0_servedBy_19 : decode cX0_servedBy 19 = .ok (.goto 4, 3) := by decide +kernel
theorem dX0_servedBy_22 : decode cX0_servedBy 22 = .ok (.iconst 0, 1) := by decide +kernel
theorem dX0_servedBy_23 : decode cX0_servedBy 23 = .ok (.ireturn, 1) := by decide +kernel
theorem dX0_slotOf_0 : decode cX0_slotOf 0 = .ok (.iload_n 1, 1) := by decide +kernel
theorem dX0_slotOf_1 : decode cX0_slotOf 1 = .ok (.ifCond .lt 21, 3) := by decide +kernel
theorem dX0_slotOf_4 : decode cX0_slotOf 4 = .ok (.iload_n 1, 1) := by decide +kernel
theorem dX0_slotOf_5 : decode cX0_slotOf 5 = .ok (.aload_n 0, 1) := by decide +kernel
theorem dX0_slotOf_6 : decode cX0_slotOf 6 = .ok (.getfield 21, 3) := by decide +kernel
theorem dX0_slotOf_9 : decode cX0_slotOf 9 = .ok (.arraylength, 1) := by decide +kernel
theorem dX0_slotOf_10 : decode cX0_slotOf 10 = .ok (.if_icmp .ge 12, 3) := by decide +kernel
theorem dX0_slotOf_13 : decode cX0_slotOf 13 = .ok (.aload_n 0, 1) := by decide +kernel
theorem dX0_slotOf_14 : decode cX0_slotOf 14 = .ok (.getfield 21, 3) := by decide +kernel
theorem dX0_slotOf_17 : decode cX0_slotOf 17 = .ok (.iload_n 1, 1) := by decide +kernel
theorem dX0_slotOf_18 : decode cX0_slotOf 18 = .ok (.iaload, 1) := by decide +kernel
theorem dX0_slotOf_19 : decode cX0_slotOf 19 = .ok (.goto 4, 3) := by decide +kernel
theorem dX0_slotOf_22 : decode cX0_slotOf 22 = .ok (.iconst (-1), 1) := by decide +kernel
theorem dX0_slotOf_23 : decode cX0_slotOf 23 = .ok (.ireturn, 1) := by decide +kernel
theorem dX0_inSlot_0 : decode cX0_inSlot 0 = .ok (.iload_n 1, 1) := by decide +kernel
theorem dX0_inSlot_1 : decode cX0_inSlot 1 = .ok (.ifCond .lt 21, 3) := by decide +kernel
theorem dX0_inSlot_4 : decode cX0_inSlot 4 = .ok (.iload_n 1, 1) := by decide +kernel
theorem dX0_inSlot_5 : decode cX0_inSlot 5 = .ok (.aload_n 0, 1) := by decide +kernel
theorem dX0_inSlot_6 : decode cX0_inSlot 6 = .ok (.getfield 24, 3) := by decide +kernel
theorem dX0_inSlot_9 : decode cX0_inSlot 9 = .ok (.arraylength, 1) := by decide +kernel
theorem dX0_inSlot_10 : decode cX0_inSlot 10 = .ok (.if_icmp .ge 12, 3) := by decide +kernel
theorem dX0_inSlot_13 : decode cX0_inSlot 13 = .ok (.aload_n 0, 1) := by decide +kernel
theorem dX0_inSlot_14 : decode cX0_inSlot 14 = .ok (.getfield 24, 3) := by decide +kernel
theorem dX0_inSlot_17 : decode cX0_inSlot 17 = .ok (.iload_n 1, 1) := by decide +kernel
theorem dX0_inSlot_18 : decode cX0_inSlot 18 = .ok (.iaload, 1) := by decide +kernel
theorem dX0_inSlot_19 : decode cX0_inSlot 19 = .ok (.goto 4, 3) := by decide +kernel
theorem dX0_inSlot_22 : decode cX0_inSlot 22 = .ok (.iconst (-1), 1) := by decide +kernel
theorem dX0_inSlot_23 : decode cX0_inSlot 23 = .ok (.ireturn, 1) := by decide +kernel
theorem dX0_holderOf_0 : decode cX0_holderOf 0 = .ok (.iload_n 1, 1) := by decide +kernel
theorem dX0_holderOf_1 : decode cX0_holderOf 1 = .ok (.ifCond .lt 21, 3) := by decide +kernel
theorem dX0_holderOf_4 : decode cX0_holderOf 4 = .ok (.iload_n 1, 1) := by decide +kernel
theorem dX0_holderOf_5 : decode cX0_holderOf 5 = .ok (.aload_n 0, 1) := by decide +kernel
theorem dX0_holderOf_6 : decode cX0_holderOf 6 = .ok (.getfield 27, 3) := by decide +kernel
theorem dX0_holderOf_9 : decode cX0_holderOf 9 = .ok (.arraylength, 1) := by decide +kernel
theorem dX0_holderOf_10 : decode cX0_holderOf 10 = .ok (.if_icmp .ge 12, 3) := by decide +kernel
theorem dX0_holderOf_13 : decode cX0_holderOf 13 = .ok (.aload_n 0, 1) := by decide +kernel
theorem dX0_holderOf_14 : decode cX0_holderOf 14 = .ok (.getfield 27, 3) := by decide +kernel
theorem dX0_holderOf_17 : decode cX0_holderOf 17 = .ok (.iload_n 1, 1) := by decide +kernel
theorem dX0_holderOf_18 : decode cX0_holderOf 18 = .ok (.iaload, 1) := by decide +kernel
theorem dX0_holderOf_19 : decode cX0_holderOf 19 = .ok (.goto 4, 3) := by decide +kernel
theorem dX0_holderOf_22 : decode cX0_holderOf 22 = .ok (.iconst (-1), 1) := by decide +kernel
theorem dX0_holderOf_23 : decode cX0_holderOf 23 = .ok (.ireturn, 1) := by decide +kernel
theorem dX0_isWorn_0 : decode cX0_isWorn 0 = .ok (.aload_n 0, 1) := by decide +kernel
theorem dX0_isWorn_1 : decode cX0_isWorn 1 = .ok (.iload_n 1, 1) := by decide +kernel
theorem dX0_isWorn_2 : decode cX0_isWorn 2 = .ok (.invokevirtual 55, 3) := by decide +kernel
theorem dX0_isWorn_5 : decode cX0_isWorn 5 = .ok (.bipush 6, 2) := by decide +kernel
theorem dX0_isWorn_7 : decode cX0_isWorn 7 = .ok (.if_icmp .lt 7, 3) := by decide +kernel
theorem dX0_isWorn_10 : decode cX0_isWorn 10 = .ok (.iconst 1, 1) := by decide +kernel
theorem dX0_isWorn_11 : decode cX0_isWorn 11 = .ok (.goto 4, 3) := by decide +kernel
theorem dX0_isWorn_14 : decode cX0_isWorn 14 = .ok (.iconst 0, 1) := by decide +kernel
theorem dX0_isWorn_15 : decode cX0_isWorn 15 = .ok (.ireturn, 1) := by decide +kernel
theorem dX0_isOnShelf_0 : decode cX0_isOnShelf 0 = .ok (.aload_n 0, 1) := by decide +kernel
theorem dX0_isOnShelf_1 : decode cX0_isOnShelf 1 = .ok (.iload_n 1, 1) := by decide +kernel
theorem dX0_isOnShelf_2 : decode cX0_isOnShelf 2 = .ok (.invokevirtual 59, 3) := by decide +kernel
theorem dX0_isOnShelf_5 : decode cX0_isOnShelf 5 = .ok (.iconst 0, 1) := by decide +kernel
theorem dX0_isOnShelf_6 : decode cX0_isOnShelf 6 = .ok (.bipush 31, 2) := by decide +kernel
theorem dX0_isOnShelf_8 : decode cX0_isOnShelf 8 = .ok (.invokestatic 46, 3) := by decide +kernel
theorem dX0_isOnShelf_11 : decode cX0_isOnShelf 11 = .ok (.ireturn, 1) := by decide +kernel
theorem dX0_wallOf_0 : decode cX0_wallOf 0 = .ok (.aload_n 0, 1) := by decide +kernel
theorem dX0_wallOf_1 : decode cX0_wallOf 1 = .ok (.iload_n 1, 1) := by decide +kernel
theorem dX0_wallOf_2 : decode cX0_wallOf 2 = .ok (.invokevirtual 59, 3) := by decide +kernel
theorem dX0_wallOf_5 : decode cX0_wallOf 5 = .ok (.iconst 4, 1) := by decide +kernel
theorem dX0_wallOf_6 : decode cX0_wallOf 6 = .ok (.idiv, 1) := by decide +kernel
theorem dX0_wallOf_7 : decode cX0_wallOf 7 = .ok (.ireturn, 1) := by decide +kernel
theorem dX0_shelfOfWall_0 : decode cX0_shelfOfWall 0 = .ok (.aload_n 0, 1) := by decide +kernel
theorem dX0_shelfOfWall_1 : decode cX0_shelfOfWall 1 = .ok (.iload_n 1, 1) := by decide +kernel
theorem dX0_shelfOfWall_2 : decode cX0_shelfOfWall 2 = .ok (.invokevirtual 59, 3) := by decide +kernel
theorem dX0_shelfOfWall_5 : decode cX0_shelfOfWall 5 = .ok (.iconst 4, 1) := by decide +kernel
theorem dX0_shelfOfWall_6 : decode cX0_shelfOfWall 6 = .ok (.irem, 1) := by decide +kernel
theorem dX0_shelfOfWall_7 : decode cX0_shelfOfWall 7 = .ok (.ireturn, 1) := by decide +kernel
theorem dX0_kindOfPlaceOf_0 : decode cX0_kindOfPlaceOf 0 = .ok (.aload_n 0, 1) := by decide +kernel
theorem dX0_kindOfPlaceOf_1 : decode cX0_kindOfPlaceOf 1 = .ok (.iload_n 1, 1) := by decide +kernel
theorem dX0_kindOfPlaceOf_2 : decode cX0_kindOfPlaceOf 2 = .ok (.invokevirtual 59, 3) := by decide +kernel
theorem dX0_kindOfPlaceOf_5 : decode cX0_kindOfPlaceOf 5 = .ok (.istore_n 2, 1) := by decide +kernel
theorem dX0_kindOfPlaceOf_6 : decode cX0_kindOfPlaceOf 6 = .ok (.iload_n 2, 1) := by decide +kernel
theorem dX0_kindOfPlaceOf_7 : decode cX0_kindOfPlaceOf 7 = .ok (.iconst (-1), 1) := by decide +kernel
theorem dX0_kindOfPlaceOf_8 : decode cX0_kindOfPlaceOf 8 = .ok (.if_icmp .ne 5, 3) := by decide +kernel
theorem dX0_kindOfPlaceOf_11 : decode cX0_kindOfPlaceOf 11 = .ok (.iconst 3, 1) := by decide +kernel
theorem dX0_kindOfPlaceOf_12 : decode cX0_kindOfPlaceOf 12 = .ok (.ireturn, 1) := by decide +kernel
theorem dX0_kindOfPlaceOf_13 : decode cX0_kindOfPlaceOf 13 = .ok (.iload_n 2, 1) := by decide +kernel
theorem dX0_kindOfPlaceOf_14 : decode cX0_kindOfPlaceOf 14 = .ok (.bipush 32, 2) := by decide +kernel
theorem dX0_kindOfPlaceOf_16 : decode cX0_kindOfPlaceOf 16 = .ok (.if_icmp .ge 5, 3) := by decide +kernel
theorem dX0_kindOfPlaceOf_19 : decode cX0_kindOfPlaceOf 19 = .ok (.iconst 0, 1) := by decide +kernel
theorem dX0_kindOfPlaceOf_20 : decode cX0_kindOfPlaceOf 20 = .ok (.ireturn, 1) := by decide +kernel
theorem dX0_kindOfPlaceOf_21 : decode cX0_kindOfPlaceOf 21 = .ok (.iload_n 2, 1) := by decide +kernel
theorem dX0_kindOfPlaceOf_22 : decode cX0_kindOfPlaceOf 22 = .ok (.bipush 35, 2) := by decide +kernel
theorem dX0_kindOfPlaceOf_24 : decode cX0_kindOfPlaceOf 24 = .ok (.if_icmp .ge 7, 3) := by decide +kernel
theorem dX0_kindOfPlaceOf_27 : decode cX0_kindOfPlaceOf 27 = .ok (.iconst 1, 1) := by decide +kernel
theorem dX0_kindOfPlaceOf_28 : decode cX0_kindOfPlaceOf 28 = .ok (.goto 4, 3) := by decide +kernel
theorem dX0_kindOfPlaceOf_31 : decode cX0_kindOfPlaceOf 31 = .ok (.iconst 2, 1) := by decide +kernel
theorem dX0_kindOfPlaceOf_32 : decode cX0_kindOfPlaceOf 32 = .ok (.ireturn, 1) := by decide +kernel
theorem dX0_placeOf_0 : decode cX0_placeOf 0 = .ok (.aload_n 0, 1) := by decide +kernel
theorem dX0_placeOf_1 : decode cX0_placeOf 1 = .ok (.iload_n 1, 1) := by decide +kernel
theorem dX0_placeOf_2 : decode cX0_placeOf 2 = .ok (.invokevirtual 62, 3) := by decide +kernel
theorem dX0_placeOf_5 : decode cX0_placeOf 5 = .ok (.tableswitch 60 0 2 #[27, 42, 51], 27) := by decide +kernel
theorem dX0_placeOf_32 : decode cX0_placeOf 32 = .ok (.bipush 10, 2) := by decide +kernel
theorem dX0_placeOf_34 : decode cX0_placeOf 34 = .ok (.aload_n 0, 1) := by decide +kernel
theorem dX0_placeOf_35 : decode cX0_placeOf 35 = .ok (.iload_n 1, 1) := by decide +kernel
theorem dX0_placeOf_36 : decode cX0_placeOf 36 = .ok (.invokevirtual 65, 3) := by decide +kernel
theorem dX0_placeOf_39 : decode cX0_placeOf 39 = .ok (.imul, 1) := by decide +kernel
theorem dX0_placeOf_40 : decode cX0_placeOf 40 = .ok (.aload_n 0, 1) := by decide +kernel
theorem dX0_placeOf_41 : decode cX0_placeOf 41 = .ok (.iload_n 1, 1) := by decide +kernel
theorem dX0_placeOf_42 : decode cX0_placeOf 42 = .ok (.invokevirtual 68, 3) := by decide +kernel
theorem dX0_placeOf_45 : decode cX0_placeOf 45 = .ok (.iadd, 1) := by decide +kernel
theorem dX0_placeOf_46 : decode cX0_placeOf 46 = .ok (.ireturn, 1) := by decide +kernel
theorem dX0_placeOf_47 : decode cX0_placeOf 47 = .ok (.aload_n 0, 1) := by decide +kernel
theorem dX0_placeOf_48 : decode cX0_placeOf 48 = .ok (.iload_n 1, 1) := by decide +kernel
theorem dX0_placeOf_49 : decode cX0_placeOf 49 = .ok (.invokevirtual 59, 3) := by decide +kernel
theorem dX0_placeOf_52 : decode cX0_placeOf 52 = .ok (.bipush 32, 2) := by decide +kernel
theorem dX0_placeOf_54 : decode cX0_placeOf 54 = .ok (.isub, 1) := by decide +kernel
theorem dX0_placeOf_55 : decode cX0_placeOf 55 = .ok (.ireturn, 1) := by decide +kernel
theorem dX0_placeOf_56 : decode cX0_placeOf 56 = .ok (.aload_n 0, 1) := by decide +kernel
theorem dX0_placeOf_57 : decode cX0_placeOf 57 = .ok (.iload_n 1, 1) := by decide +kernel
theorem dX0_placeOf_58 : decode cX0_placeOf 58 = .ok (.invokevirtual 59, 3) := by decide +kernel
theorem dX0_placeOf_61 : decode cX0_placeOf 61 = .ok (.bipush 35, 2) := by decide +kernel
theorem dX0_placeOf_63 : decode cX0_placeOf 63 = .ok (.isub, 1) := by decide +kernel
theorem dX0_placeOf_64 : decode cX0_placeOf 64 = .ok (.ireturn, 1) := by decide +kernel
theorem dX0_placeOf_65 : decode cX0_placeOf 65 = .ok (.ldc 71, 2) := by decide +kernel
theorem dX0_placeOf_67 : decode cX0_placeOf 67 = .ok (.ireturn, 1) := by decide +kernel
theorem dX0_filesHeldBy_0 : decode cX0_filesHeldBy 0 = .ok (.aload_n 0, 1) := by decide +kernel
theorem dX0_filesHeldBy_1 : decode cX0_filesHeldBy 1 = .ok (.getfield 27, 3) := by decide +kernel
theorem dX0_filesHeldBy_4 : decode cX0_filesHeldBy 4 = .ok (.iload_n 1, 1) := by decide +kernel
theorem dX0_filesHeldBy_5 : decode cX0_filesHeldBy 5 = .ok (.invokestatic 72, 3) := by decide +kernel
theorem dX0_filesHeldBy_8 : decode cX0_filesHeldBy 8 = .ok (.ireturn, 1) := by decide +kernel
theorem dX0_filesHeld_0 : decode cX0_filesHeld 0 = .ok (.bipush 60, 2) := by decide +kernel
theorem dX0_filesHeld_2 : decode cX0_filesHeld 2 = .ok (.aload_n 0, 1) := by decide +kernel
theorem dX0_filesHeld_3 : decode cX0_filesHeld 3 = .ok (.getfield 27, 3) := by decide +kernel
theorem dX0_filesHeld_6 : decode cX0_filesHeld 6 = .ok (.iconst (-1), 1) := by decide +kernel
theorem dX0_filesHeld_7 : decode cX0_filesHeld 7 = .ok (.invokestatic 72, 3) := by decide +kernel
theorem dX0_filesHeld_10 : decode cX0_filesHeld 10 = .ok (.isub, 1) := by decide +kernel
theorem dX0_filesHeld_11 : decode cX0_filesHeld 11 = .ok (.ireturn, 1) := by decide +kernel
theorem dX0_withNeighbors_0 : decode cX0_withNeighbors 0 = .ok (.iconst 0, 1) := by decide +kernel
theorem dX0_withNeighbors_1 : decode cX0_withNeighbors 1 = .ok (.istore_n 1, 1) := by decide +kernel
theorem dX0_withNeighbors_2 : decode cX0_withNeighbors 2 = .ok (.iconst 0, 1) := by decide +kernel
theorem dX0_withNeighbors_3 : decode cX0_withNeighbors 3 = .ok (.istore_n 2, 1) := by decide +kernel
theorem dX0_withNeighbors_4 : decode cX0_withNeighbors 4 = .ok (.iload_n 2, 1) := by decide +kernel
theorem dX0_withNeighbors_5 : decode cX0_withNeighbors 5 = .ok (.aload_n 0, 1) := by decide +kernel
theorem dX0_withNeighbors_6 : decode cX0_withNeighbors 6 = .ok (.getfield 42, 3) := by decide +kernel
theorem dX0_withNeighbors_9 : decode cX0_withNeighbors 9 = .ok (.if_icmp .ge 21, 3) := by decide +kernel
theorem dX0_withNeighbors_12 : decode cX0_withNeighbors 12 = .ok (.aload_n 0, 1) := by decide +kernel
theorem dX0_withNeighbors_13 : decode cX0_withNeighbors 13 = .ok (.iload_n 2, 1) := by decide +kernel
theorem dX0_withNeighbors_14 : decode cX0_withNeighbors 14 = .ok (.invokevirtual 59, 3) := by decide +kernel
theorem dX0_withNeighbors_17 : decode cX0_withNeighbors 17 = .ok (.iconst (-1), 1) := by decide +kernel
theorem dX0_withNeighbors_18 : decode cX0_withNeighbors 18 = .ok (.if_icmp .ne 6, 3) := by decide +kernel
theorem dX0_withNeighbors_21 : decode cX0_withNeighbors 21 = .ok (.iinc 1 1, 3) := by decide +kernel
theorem dX0_withNeighbors_24 : decode cX0_withNeighbors 24 = .ok (.iinc 2 1, 3) := by decide +kernel
theorem dX0_withNeighbors_27 : decode cX0_withNeighbors 27 = .ok (.goto (-23), 3) := by decide +kernel
theorem dX0_withNeighbors_30 : decode cX0_withNeighbors 30 = .ok (.iload_n 1, 1) := by decide +kernel
theorem dX0_withNeighbors_31 : decode cX0_withNeighbors 31 = .ok (.ireturn, 1) := by decide +kernel
theorem dX0_worn_0 : decode cX0_worn 0 = .ok (.iconst 0, 1) := by decide +kernel
theorem dX0_worn_1 : decode cX0_worn 1 = .ok (.istore_n 1, 1) := by decide +kernel
theorem dX0_worn_2 : decode cX0_worn 2 = .ok (.iconst 0, 1) := by decide +kernel
theorem dX0_worn_3 : decode cX0_worn 3 = .ok (.istore_n 2, 1) := by decide +kernel
theorem dX0_worn_4 : decode cX0_worn 4 = .ok (.iload_n 2, 1) := by decide +kernel
theorem dX0_worn_5 : decode cX0_worn 5 = .ok (.aload_n 0, 1) := by decide +kernel
theorem dX0_worn_6 : decode cX0_worn 6 = .ok (.getfield 42, 3) := by decide +kernel
theorem dX0_worn_9 : decode cX0_worn 9 = .ok (.if_icmp .ge 20, 3) := by decide +kernel
theorem dX0_worn_12 : decode cX0_worn 12 = .ok (.aload_n 0, 1) := by decide +kernel
theorem dX0_worn_13 : decode cX0_worn 13 = .ok (.iload_n 2, 1) := by decide +kernel
theorem dX0_worn_14 : decode cX0_worn 14 = .ok (.invokevirtual 76, 3) := by decide +kernel
theorem dX0_worn_17 : decode cX0_worn 17 = .ok (.ifCond .eq 6, 3) := by decide +kernel
theorem dX0_worn_20 : decode cX0_worn 20 = .ok (.iinc 1 1, 3) := by decide +kernel
theorem dX0_worn_23 : decode cX0_worn 23 = .ok (.iinc 2 1, 3) := by decide +kernel
theorem dX0_worn_26 : decode cX0_worn 26 = .ok (.goto (-22), 3) := by decide +kernel
theorem dX0_worn_29 : decode cX0_worn 29 = .ok (.iload_n 1, 1) := by decide +kernel
theorem dX0_worn_30 : decode cX0_worn 30 = .ok (.ireturn, 1) := by decide +kernel
theorem dX0_emptyShelfNear_0 : decode cX0_emptyShelfNear 0 = .ok (.iconst 0, 1) := by decide +kernel
theorem dX0_emptyShelfNear_1 : decode cX0_emptyShelfNear 1 = .ok (.istore_n 2, 1) := by decide +kernel
theorem dX0_emptyShelfNear_2 : decode cX0_emptyShelfNear 2 = .ok (.iload_n 2, 1) := by decide +kernel
theorem dX0_emptyShelfNear_3 : decode cX0_emptyShelfNear 3 = .ok (.bipush 8, 2) := by decide +kernel
theorem dX0_emptyShelfNear_5 : decode cX0_emptyShelfNear 5 = .ok (.if_icmp .ge 75, 3) := by decide +kernel
theorem dX0_emptyShelfNear_8 : decode cX0_emptyShelfNear 8 = .ok (.iload_n 2, 1) := by decide +kernel
theorem dX0_emptyShelfNear_9 : decode cX0_emptyShelfNear 9 = .ok (.iconst 2, 1) := by decide +kernel
theorem dX0_emptyShelfNear_10 : decode cX0_emptyShelfNear 10 = .ok (.irem, 1) := by decide +kernel
theorem dX0_emptyShelfNear_11 : decode cX0_emptyShelfNear 11 = .ok (.iconst 1, 1) := by decide +kernel
theorem dX0_emptyShelfNear_12 : decode cX0_emptyShelfNear 12 = .ok (.if_icmp .ne 11, 3) := by decide +kernel
theorem dX0_emptyShelfNear_15 : decode cX0_emptyShelfNear 15 = .ok (.iload_n 2, 1) := by decide +kernel
theorem dX0_emptyShelfNear_16 : decode cX0_emptyShelfNear 16 = .ok (.iconst 1, 1) := by decide +kernel
theorem dX0_emptyShelfNear_17 : decode cX0_emptyShelfNear 17 = .ok (.iadd, 1) := by decide +kernel
theorem dX0_emptyShelfNear_18 : decode cX0_emptyShelfNear 18 = .ok (.iconst 2, 1) := by decide +kernel
theorem dX0_emptyShelfNear_19 : decode cX0_emptyShelfNear 19 = .ok (.idiv, 1) := by decide +kernel
theorem dX0_emptyShelfNear_20 : decode cX0_emptyShelfNear 20 = .ok (.goto 9, 3) := by decide +kernel
theorem dX0_emptyShelfNear_23 : decode cX0_emptyShelfNear 23 = .ok (.bipush 8, 2) := by decide +kernel
theorem dX0_emptyShelfNear_25 : decode cX0_emptyShelfNear 25 = .ok (.iload_n 2, 1) := by decide +kernel
theorem dX0_emptyShelfNear_26 : decode cX0_emptyShelfNear 26 = .ok (.iconst 2, 1) := by decide +kernel
theorem dX0_emptyShelfNear_27 : decode cX0_emptyShelfNear 27 = .ok (.idiv, 1) := by decide +kernel
theorem dX0_emptyShelfNear_28 : decode cX0_emptyShelfNear 28 = .ok (.isub, 1) := by decide +kernel
theorem dX0_emptyShelfNear_29 : decode cX0_emptyShelfNear 29 = .ok (.istore_n 3, 1) := by decide +kernel
theorem dX0_emptyShelfNear_30 : decode cX0_emptyShelfNear 30 = .ok (.iload_n 1, 1) := by decide +kernel
theorem dX0_emptyShelfNear_31 : decode cX0_emptyShelfNear 31 = .ok (.iload_n 3, 1) := by decide +kernel
theorem dX0_emptyShelfNear_32 : decode cX0_emptyShelfNear 32 = .ok (.iadd, 1) := by decide +kernel
theorem dX0_emptyShelfNear_33 : decode cX0_emptyShelfNear 33 = .ok (.bipush 8, 2) := by decide +kernel
theorem dX0_emptyShelfNear_35 : decode cX0_emptyShelfNear 35 = .ok (.irem, 1) := by decide +kernel
theorem dX0_emptyShelfNear_36 : decode cX0_emptyShelfNear 36 = .ok (.iconst 0, 1) := by decide +kernel
theorem dX0_emptyShelfNear_37 : decode cX0_emptyShelfNear 37 = .ok (.invokestatic 80, 3) := by decide +kernel
theorem dX0_emptyShelfNear_40 : decode cX0_emptyShelfNear 40 = .ok (.istore 4, 2) := by decide +kernel
theorem dX0_emptyShelfNear_42 : decode cX0_emptyShelfNear 42 = .ok (.iload 4, 2) := by decide +kernel
theorem dX0_emptyShelfNear_44 : decode cX0_emptyShelfNear 44 = .ok (.istore 5, 2) := by decide +kernel
theorem dX0_emptyShelfNear_46 : decode cX0_emptyShelfNear 46 = .ok (.iload 5, 2) := by decide +kernel
theorem dX0_emptyShelfNear_48 : decode cX0_emptyShelfNear 48 = .ok (.iload 4, 2) := by decide +kernel
theorem dX0_emptyShelfNear_50 : decode cX0_emptyShelfNear 50 = .ok (.iconst 4, 1) := by decide +kernel
theorem dX0_emptyShelfNear_51 : decode cX0_emptyShelfNear 51 = .ok (.iadd, 1) := by decide +kernel
theorem dX0_emptyShelfNear_52 : decode cX0_emptyShelfNear 52 = .ok (.if_icmp .ge 22, 3) := by decide +kernel
theorem dX0_emptyShelfNear_55 : decode cX0_emptyShelfNear 55 = .ok (.aload_n 0, 1) := by decide +kernel
theorem dX0_emptyShelfNear_56 : decode cX0_emptyShelfNear 56 = .ok (.iload 5, 2) := by decide +kernel
theorem dX0_emptyShelfNear_58 : decode cX0_emptyShelfNear 58 = .ok (.invokevirtual 84, 3) := by decide +kernel
theorem dX0_emptyShelfNear_61 : decode cX0_emptyShelfNear 61 = .ok (.iconst (-1), 1) := by decide +kernel
theorem dX0_emptyShelfNear_62 : decode cX0_emptyShelfNear 62 = .ok (.if_icmp .ne 6, 3) := by decide +kernel
theorem dX0_emptyShelfNear_65 : decode cX0_emptyShelfNear 65 = .ok (.iload 5, 2) := by decide +kernel
theorem dX0_emptyShelfNear_67 : decode cX0_emptyShelfNear 67 = .ok (.ireturn, 1) := by decide +kernel
theorem dX0_emptyShelfNear_68 : decode cX0_emptyShelfNear 68 = .ok (.iinc 5 1, 3) := by decide +kernel
theorem dX0_emptyShelfNear_71 : decode cX0_emptyShelfNear 71 = .ok (.goto (-25), 3) := by decide +kernel
theorem dX0_emptyShelfNear_74 : decode cX0_emptyShelfNear 74 = .ok (.iinc 2 1, 3) := by decide +kernel
theorem dX0_emptyShelfNear_77 : decode cX0_emptyShelfNear 77 = .ok (.goto (-75), 3) := by decide +kernel
theorem dX0_emptyShelfNear_80 : decode cX0_emptyShelfNear 80 = .ok (.iconst (-1), 1) := by decide +kernel
theorem dX0_emptyShelfNear_81 : decode cX0_emptyShelfNear 81 = .ok (.ireturn, 1) := by decide +kernel
theorem dX1_init_0 : decode cX1_init 0 = .ok (.aload_n 0, 1) := by decide +kernel
theorem dX1_init_1 : decode cX1_init 1 = .ok (.invokespecial 3, 3) := by decide +kernel
theorem dX1_init_4 : decode cX1_init 4 = .ok (.aload_n 0, 1) := by decide +kernel
theorem dX1_init_5 : decode cX1_init 5 = .ok (.iconst 4, 1) := by decide +kernel
theorem dX1_init_6 : decode cX1_init 6 = .ok (.anewarray 9, 3) := by decide +kernel
theorem dX1_init_9 : decode cX1_init 9 = .ok (.putfield 11, 3) := by decide +kernel
theorem dX1_init_12 : decode cX1_init 12 = .ok (.iconst 0, 1) := by decide +kernel
theorem dX1_init_13 : decode cX1_init 13 = .ok (.istore_n 1, 1) := by decide +kernel
theorem dX1_init_14 : decode cX1_init 14 = .ok (.iload_n 1, 1) := by decide +kernel
theorem dX1_init_15 : decode cX1_init 15 = .ok (.aload_n 0, 1) := by decide +kernel
theorem dX1_init_16 : decode cX1_init 16 = .ok (.getfield 11, 3) := by decide +kernel
theorem dX1_init_19 : decode cX1_init 19 = .ok (.arraylength, 1) := by decide +kernel
theorem dX1_init_20 : decode cX1_init 20 = .ok (.if_icmp .ge 22, 3) := by decide +kernel
theorem dX1_init_23 : decode cX1_init 23 = .ok (.aload_n 0, 1) := by decide +kernel
theorem dX1_init_24 : decode cX1_init 24 = .ok (.getfield 11, 3) := by decide +kernel
theorem dX1_init_27 : decode cX1_init 27 = .ok (.iload_n 1, 1) := by decide +kernel
theorem dX1_init_28 : decode cX1_init 28 = .ok (.new 9, 3) := by decide +kernel
theorem dX1_init_31 : decode cX1_init 31 = .ok (.dup, 1) := by decide +kernel
theorem dX1_init_32 : decode cX1_init 32 = .ok (.invokespecial 17, 3) := by decide +kernel
theorem dX1_init_35 : decode cX1_init 35 = .ok (.aastore, 1) := by decide +kernel
theorem dX1_init_36 : decode cX1_init 36 = .ok (.iinc 1 1, 3) := by decide +kernel
theorem dX1_init_39 : decode cX1_init 39 = .ok (.goto (-25), 3) := by decide +kernel
theorem dX1_init_42 : decode cX1_init 42 = .ok (.return_, 1) := by decide +kernel
theorem dX1_record_0 : decode cX1_record 0 = .ok (.aload_n 0, 1) := by decide +kernel
theorem dX1_record_1 : decode cX1_record 1 = .ok (.aload_n 0, 1) := by decide +kernel
theorem dX1_record_2 : decode cX1_record 2 = .ok (.getfield 18, 3) := by decide +kernel
theorem dX1_record_5 : decode cX1_record 5 = .ok (.invokevirtual 22, 3) := by decide +kernel
theorem dX1_record_8 : decode cX1_record 8 = .ok (.astore_n 2, 1) := by decide +kernel
theorem dX1_record_9 : decode cX1_record 9 = .ok (.aload_n 2, 1) := by decide +kernel
theorem dX1_record_10 : decode cX1_record 10 = .ok (.ifnull 34, 3) := by decide +kernel
theorem dX1_record_13 : decode cX1_record 13 = .ok (.aload_n 2, 1) := by decide +kernel
theorem dX1_record_14 : decode cX1_record 14 = .ok (.aload_n 1, 1) := by decide +kernel
theorem dX1_record_15 : decode cX1_record 15 = .ok (.invokevirtual 26, 3) := by decide +kernel
theorem dX1_record_18 : decode cX1_record 18 = .ok (.aload_n 0, 1) := by decide +kernel
theorem dX1_record_19 : decode cX1_record 19 = .ok (.aload_n 0, 1) := by decide +kernel
theorem dX1_record_20 : decode cX1_record 20 = .ok (.getfield 18, 3) := by decide +kernel
theorem dX1_record_23 : decode cX1_record 23 = .ok (.iconst 1, 1) := by decide +kernel
theorem dX1_record_24 : decode cX1_record 24 = .ok (.iadd, 1) := by decide +kernel
theorem dX1_record_25 : decode cX1_record 25 = .ok (.iconst 4, 1) := by decide +kernel
theorem dX1_record_26 : decode cX1_record 26 = .ok (.irem, 1) := by decide +kernel
theorem dX1_record_27 : decode cX1_record 27 = .ok (.putfield 18, 3) := by decide +kernel
theorem dX1_record_30 : decode cX1_record 30 = .ok (.aload_n 0, 1) := by decide +kernel
theorem dX1_record_31 : decode cX1_record 31 = .ok (.aload_n 0, 1) := by decide +kernel
theorem dX1_record_32 : decode cX1_record 32 = .ok (.getfield 30, 3) := by decide +kernel
theorem dX1_record_35 : decode cX1_record 35 = .ok (.iconst 1, 1) := by decide +kernel
theorem dX1_record_36 : decode cX1_record 36 = .ok (.iadd, 1) := by decide +kernel
theorem dX1_record_37 : decode cX1_record 37 = .ok (.iconst 4, 1) := by decide +kernel
theorem dX1_record_38 : decode cX1_record 38 = .ok (.invokestatic 33, 3) := by decide +kernel
theorem dX1_record_41 : decode cX1_record 41 = .ok (.putfield 30, 3) := by decide +kernel
theorem dX1_record_44 : decode cX1_record 44 = .ok (.return_, 1) := by decide +kernel
theorem dX1_restore_0 : decode cX1_restore 0 = .ok (.aload_n 0, 1) := by decide +kernel
theorem dX1_restore_1 : decode cX1_restore 1 = .ok (.getfield 18, 3) := by decide +kernel
theorem dX1_restore_4 : decode cX1_restore 4 = .ok (.iconst 4, 1) := by decide +kernel
theorem dX1_restore_5 : decode cX1_restore 5 = .ok (.iadd, 1) := by decide +kernel
theorem dX1_restore_6 : decode cX1_restore 6 = .ok (.iconst 1, 1) := by decide +kernel
theorem dX1_restore_7 : decode cX1_restore 7 = .ok (.isub, 1) := by decide +kernel
theorem dX1_restore_8 : decode cX1_restore 8 = .ok (.iconst 4, 1) := by decide +kernel
theorem dX1_restore_9 : decode cX1_restore 9 = .ok (.irem, 1) := by decide +kernel
theorem dX1_restore_10 : decode cX1_restore 10 = .ok (.istore_n 2, 1) := by decide +kernel
theorem dX1_restore_11 : decode cX1_restore 11 = .ok (.aload_n 0, 1) := by decide +kernel
theorem dX1_restore_12 : decode cX1_restore 12 = .ok (.iload_n 2, 1) := by decide +kernel
theorem dX1_restore_13 : decode cX1_restore 13 = .ok (.invokevirtual 22, 3) := by decide +kernel
theorem dX1_restore_16 : decode cX1_restore 16 = .ok (.astore_n 3, 1) := by decide +kernel
theorem dX1_restore_17 : decode cX1_restore 17 = .ok (.aload_n 0, 1) := by decide +kernel
theorem dX1_restore_18 : decode cX1_restore 18 = .ok (.getfield 30, 3) := by decide +kernel
theorem dX1_restore_21 : decode cX1_restore 21 = .ok (.ifCond .le 7, 3) := by decide +kernel
theorem dX1_restore_24 : decode cX1_restore 24 = .ok (.aload_n 3, 1) := by decide +kernel
theorem dX1_restore_25 : decode cX1_restore 25 = .ok (.ifnonnull 6, 3) := by decide +kernel
theorem dX1_restore_28 : decode cX1_restore 28 = .ok (.ldc 39, 2) := by decide +kernel
theorem dX1_restore_30 : decode cX1_restore 30 = .ok (.ireturn, 1) := by decide +kernel
theorem dX1_restore_31 : decode cX1_restore 31 = .ok (.aload_n 1, 1) := by decide +kernel
theorem dX1_restore_32 : decode cX1_restore 32 = .ok (.aload_n 3, 1) := by decide +kernel
theorem dX1_restore_33 : decode cX1_restore 33 = .ok (.invokevirtual 26, 3) := by decide +kernel
theorem dX1_restore_36 : decode cX1_restore 36 = .ok (.aload_n 0, 1) := by decide +kernel
theorem dX1_restore_37 : decode cX1_restore 37 = .ok (.iload_n 2, 1) := by decide +kernel
theorem dX1_restore_38 : decode cX1_restore 38 = .ok (.putfield 18, 3) := by decide +kernel
theorem dX1_restore_41 : decode cX1_restore 41 = .ok (.aload_n 0, 1) := by decide +kernel
theorem dX1_restore_42 : decode cX1_restore 42 = .ok (.dup, 1) := by decide +kernel
theorem dX1_restore_43 : decode cX1_restore 43 = .ok (.getfield 30, 3) := by decide +kernel
theorem dX1_restore_46 : decode cX1_restore 46 = .ok (.iconst 1, 1) := by decide +kernel
theorem dX1_restore_47 : decode cX1_restore 47 = .ok (.isub, 1) := by decide +kernel
theorem dX1_restore_48 : decode cX1_restore 48 = .ok (.putfield 30, 3) := by decide +kernel
theorem dX1_restore_51 : decode cX1_restore 51 = .ok (.aload_n 0, 1) := by decide +kernel
theorem dX1_restore_52 : decode cX1_restore 52 = .ok (.getfield 30, 3) := by decide +kernel
theorem dX1_restore_55 : decode cX1_restore 55 = .ok (.ireturn, 1) := by decide +kernel
theorem dX1_stateAt_0 : decode cX1_stateAt 0 = .ok (.iload_n 1, 1) := by decide +kernel
theorem dX1_stateAt_1 : decode cX1_stateAt 1 = .ok (.ifCond .lt 21, 3) := by decide +kernel
theorem dX1_stateAt_4 : decode cX1_stateAt 4 = .ok (.iload_n 1, 1) := by decide +kernel
theorem dX1_stateAt_5 : decode cX1_stateAt 5 = .ok (.aload_n 0, 1) := by decide +kernel
theorem dX1_stateAt_6 : decode cX1_stateAt 6 = .ok (.getfield 11, 3) := by decide +kernel
theorem dX1_stateAt_9 : decode cX1_stateAt 9 = .ok (.arraylength, 1) := by decide +kernel
theorem dX1_stateAt_10 : decode cX1_stateAt 10 = .ok (.if_icmp .ge 12, 3) := by decide +kernel
theorem dX1_stateAt_13 : decode cX1_stateAt 13 = .ok (.aload_n 0, 1) := by decide +kernel
theorem dX1_stateAt_14 : decode cX1_stateAt 14 = .ok (.getfield 11, 3) := by decide +kernel
theorem dX1_stateAt_17 : decode cX1_stateAt 17 = .ok (.iload_n 1, 1) := by decide +kernel
theorem dX1_stateAt_18 : decode cX1_stateAt 18 = .ok (.aaload, 1) := by decide +kernel
theorem dX1_stateAt_19 : decode cX1_stateAt 19 = .ok (.goto 4, 3) := by decide +kernel
theorem dX1_stateAt_22 : decode cX1_stateAt 22 = .ok (.aconst_null, 1) := by decide +kernel
theorem dX1_stateAt_23 : decode cX1_stateAt 23 = .ok (.areturn, 1) := by decide +kernel
theorem dX2_init_0 : decode cX2_init 0 = .ok (.aload_n 0, 1) := by decide +kernel
theorem dX2_init_1 : decode cX2_init 1 = .ok (.invokespecial 3, 3) := by decide +kernel
theorem dX2_init_4 : decode cX2_init 4 = .ok (.aload_n 0, 1) := by decide +kernel
theorem dX2_init_5 : decode cX2_init 5 = .ok (.new 9, 3) := by decide +kernel
theorem dX2_init_8 : decode cX2_init 8 = .ok (.dup, 1) := by decide +kernel
theorem dX2_init_9 : decode cX2_init 9 = .ok (.invokespecial 11, 3) := by decide +kernel
theorem dX2_init_12 : decode cX2_init 12 = .ok (.putfield 12, 3) := by decide +kernel
theorem dX2_init_15 : decode cX2_init 15 = .ok (.aload_n 0, 1) := by decide +kernel
theorem dX2_init_16 : decode cX2_init 16 = .ok (.new 18, 3) := by decide +kernel
theorem dX2_init_19 : decode cX2_init 19 = .ok (.dup, 1) := by decide +kernel
theorem dX2_init_20 : decode cX2_init 20 = .ok (.invokespecial 20, 3) := by decide +kernel
theorem dX2_init_23 : decode cX2_init 23 = .ok (.putfield 21, 3) := by decide +kernel
theorem dX2_init_26 : decode cX2_init 26 = .ok (.return_, 1) := by decide +kernel
theorem dX2_copyFrom_0 : decode cX2_copyFrom 0 = .ok (.aload_n 0, 1) := by decide +kernel
theorem dX2_copyFrom_1 : decode cX2_copyFrom 1 = .ok (.getfield 12, 3) := by decide +kernel
theorem dX2_copyFrom_4 : decode cX2_copyFrom 4 = .ok (.aload_n 1, 1) := by decide +kernel
theorem dX2_copyFrom_5 : decode cX2_copyFrom 5 = .ok (.getfield 12, 3) := by decide +kernel
theorem dX2_copyFrom_8 : decode cX2_copyFrom 8 = .ok (.invokevirtual 25, 3) := by decide +kernel
theorem dX2_copyFrom_11 : decode cX2_copyFrom 11 = .ok (.aload_n 0, 1) := by decide +kernel
theorem dX2_copyFrom_12 : decode cX2_copyFrom 12 = .ok (.getfield 21, 3) := by decide +kernel
theorem dX2_copyFrom_15 : decode cX2_copyFrom 15 = .ok (.aload_n 1, 1) := by decide +kernel
theorem dX2_copyFrom_16 : decode cX2_copyFrom 16 = .ok (.getfield 21, 3) := by decide +kernel
theorem dX2_copyFrom_19 : decode cX2_copyFrom 19 = .ok (.invokevirtual 29, 3) := by decide +kernel
theorem dX2_copyFrom_22 : decode cX2_copyFrom 22 = .ok (.aload_n 0, 1) := by decide +kernel
theorem dX2_copyFrom_23 : decode cX2_copyFrom 23 = .ok (.aload_n 1, 1) := by decide +kernel
theorem dX2_copyFrom_24 : decode cX2_copyFrom 24 = .ok (.getfield 32, 3) := by decide +kernel
theorem dX2_copyFrom_27 : decode cX2_copyFrom 27 = .ok (.putfield 32, 3) := by decide +kernel
theorem dX2_copyFrom_30 : decode cX2_copyFrom 30 = .ok (.aload_n 0, 1) := by decide +kernel
theorem dX2_copyFrom_31 : decode cX2_copyFrom 31 = .ok (.aload_n 1, 1) := by decide +kernel
theorem dX2_copyFrom_32 : decode cX2_copyFrom 32 = .ok (.getfield 36, 3) := by decide +kernel
theorem dX2_copyFrom_35 : decode cX2_copyFrom 35 = .ok (.putfield 36, 3) := by decide +kernel
theorem dX2_copyFrom_38 : decode cX2_copyFrom 38 = .ok (.aload_n 0, 1) := by decide +kernel
theorem dX2_copyFrom_39 : decode cX2_copyFrom 39 = .ok (.aload_n 1, 1) := by decide +kernel
theorem dX2_copyFrom_40 : decode cX2_copyFrom 40 = .ok (.getfield 40, 3) := by decide +kernel
theorem dX2_copyFrom_43 : decode cX2_copyFrom 43 = .ok (.putfield 40, 3) := by decide +kernel
theorem dX2_copyFrom_46 : decode cX2_copyFrom 46 = .ok (.aload_n 0, 1) := by decide +kernel
theorem dX2_copyFrom_47 : decode cX2_copyFrom 47 = .ok (.aload_n 1, 1) := by decide +kernel
theorem dX2_copyFrom_48 : decode cX2_copyFrom 48 = .ok (.getfield 43, 3) := by decide +kernel
theorem dX2_copyFrom_51 : decode cX2_copyFrom 51 = .ok (.putfield 43, 3) := by decide +kernel
theorem dX2_copyFrom_54 : decode cX2_copyFrom 54 = .ok (.aload_n 0, 1) := by decide +kernel
theorem dX2_copyFrom_55 : decode cX2_copyFrom 55 = .ok (.aload_n 1, 1) := by decide +kernel
theorem dX2_copyFrom_56 : decode cX2_copyFrom 56 = .ok (.getfield 46, 3) := by decide +kernel
theorem dX2_copyFrom_59 : decode cX2_copyFrom 59 = .ok (.putfield 46, 3) := by decide +kernel
theorem dX2_copyFrom_62 : decode cX2_copyFrom 62 = .ok (.aload_n 0, 1) := by decide +kernel
theorem dX2_copyFrom_63 : decode cX2_copyFrom 63 = .ok (.aload_n 1, 1) := by decide +kernel
theorem dX2_copyFrom_64 : decode cX2_copyFrom 64 = .ok (.getfield 49, 3) := by decide +kernel
theorem dX2_copyFrom_67 : decode cX2_copyFrom 67 = .ok (.putfield 49, 3) := by decide +kernel
theorem dX2_copyFrom_70 : decode cX2_copyFrom 70 = .ok (.aload_n 0, 1) := by decide +kernel
theorem dX2_copyFrom_71 : decode cX2_copyFrom 71 = .ok (.aload_n 1, 1) := by decide +kernel
theorem dX2_copyFrom_72 : decode cX2_copyFrom 72 = .ok (.getfield 52, 3) := by decide +kernel
theorem dX2_copyFrom_75 : decode cX2_copyFrom 75 = .ok (.putfield 52, 3) := by decide +kernel
theorem dX2_copyFrom_78 : decode cX2_copyFrom 78 = .ok (.aload_n 0, 1) := by decide +kernel
theorem dX2_copyFrom_79 : decode cX2_copyFrom 79 = .ok (.aload_n 1, 1) := by decide +kernel
theorem dX2_copyFrom_80 : decode cX2_copyFrom 80 = .ok (.getfield 55, 3) := by decide +kernel
theorem dX2_copyFrom_83 : decode cX2_copyFrom 83 = .ok (.putfield 55, 3) := by decide +kernel
theorem dX2_copyFrom_86 : decode cX2_copyFrom 86 = .ok (.return_, 1) := by decide +kernel
theorem dX2_addCartridge_0 : decode cX2_addCartridge 0 = .ok (.iload_n 1, 1) := by decide +kernel
theorem dX2_addCartridge_1 : decode cX2_addCartridge 1 = .ok (.iconst 1, 1) := by decide +kernel
theorem dX2_addCartridge_2 : decode cX2_addCartridge 2 = .ok (.bipush 20, 2) := by decide +kernel
theorem dX2_addCartridge_4 : decode cX2_addCartridge 4 = .ok (.invokestatic 58, 3) := by decide +kernel
theorem dX2_addCartridge_7 : decode cX2_addCartridge 7 = .ok (.ifCond .eq 11, 3) := by decide +kernel
theorem dX2_addCartridge_10 : decode cX2_addCartridge 10 = .ok (.iload_n 2, 1) := by decide +kernel
theorem dX2_addCartridge_11 : decode cX2_addCartridge 11 = .ok (.iload_n 3, 1) := by decide +kernel
theorem dX2_addCartridge_12 : decode cX2_addCartridge 12 = .ok (.invokestatic 62, 3) := by decide +kernel
theorem dX2_addCartridge_15 : decode cX2_addCartridge 15 = .ok (.ifCond .ne 6, 3) := by decide +kernel
theorem dX2_addCartridge_18 : decode cX2_addCartridge 18 = .ok (.ldc 66, 2) := by decide +kernel
theorem dX2_addCartridge_20 : decode cX2_addCartridge 20 = .ok (.ireturn, 1) := by decide +kernel
theorem dX2_addCartridge_21 : decode cX2_addCartridge 21 = .ok (.iload_n 2, 1) := by decide +kernel
theorem dX2_addCartridge_22 : decode cX2_addCartridge 22 = .ok (.iload_n 3, 1) := by decide +kernel
theorem dX2_addCartridge_23 : decode cX2_addCartridge 23 = .ok (.invokestatic 67, 3) := by decide +kernel
theorem dX2_addCartridge_26 : decode cX2_addCartridge 26 = .ok (.istore 4, 2) := by decide +kernel
theorem dX2_addCartridge_28 : decode cX2_addCartridge 28 = .ok (.aload_n 0, 1) := by decide +kernel
theorem dX2_addCartridge_29 : decode cX2_addCartridge 29 = .ok (.getfield 12, 3) := by decide +kernel
theorem dX2_addCartridge_32 : decode cX2_addCartridge 32 = .ok (.iload 4, 2) := by decide +kernel
theorem dX2_addCartridge_34 : decode cX2_addCartridge 34 = .ok (.invokevirtual 71, 3) := by decide +kernel
theorem dX2_addCartridge_37 : decode cX2_addCartridge 37 = .ok (.iconst (-1), 1) := by decide +kernel
theorem dX2_addCartridge_38 : decode cX2_addCartridge 38 = .ok (.if_icmp .eq 6, 3) := by decide +kernel
theorem dX2_addCartridge_41 : decode cX2_addCartridge 41 = .ok (.ldc 75, 2) := by decide +kernel
theorem dX2_addCartridge_43 : decode cX2_addCartridge 43 = .ok (.ireturn, 1) := by decide +kernel
theorem dX2_addCartridge_44 : decode cX2_addCartridge 44 = .ok (.aload_n 0, 1) := by decide +kernel
theorem dX2_addCartridge_45 : decode cX2_addCartridge 45 = .ok (.getfield 12, 3) := by decide +kernel
theorem dX2_addCartridge_48 : decode cX2_addCartridge 48 = .ok (.iload_n 1, 1) := by decide +kernel
theorem dX2_addCartridge_49 : decode cX2_addCartridge 49 = .ok (.iload 4, 2) := by decide +kernel
theorem dX2_addCartridge_51 : decode cX2_addCartridge 51 = .ok (.invokevirtual 76, 3) := by decide +kernel
theorem dX2_addCartridge_54 : decode cX2_addCartridge 54 = .ok (.ireturn, 1) := by decide +kernel
theorem dX2_exchange_0 : decode cX2_exchange 0 = .ok (.iload_n 2, 1) := by decide +kernel
theorem dX2_exchange_1 : decode cX2_exchange 1 = .ok (.iconst (-1), 1) := by decide +kernel
theorem dX2_exchange_2 : decode cX2_exchange 2 = .ok (.if_icmp .ne 12, 3) := by decide +kernel
theorem dX2_exchange_5 : decode cX2_exchange 5 = .ok (.iload_n 3, 1) := by decide +kernel
theorem dX2_exchange_6 : decode cX2_exchange 6 = .ok (.iconst (-1), 1) := by decide +kernel
theorem dX2_exchange_7 : decode cX2_exchange 7 = .ok (.if_icmp .ne 7, 3) := by decide +kernel
theorem dX2_exchange_10 : decode cX2_exchange 10 = .ok (.iconst 1, 1) := by decide +kernel
theorem dX2_exchange_11 : decode cX2_exchange 11 = .ok (.goto 4, 3) := by decide +kernel
theorem dX2_exchange_14 : decode cX2_exchange 14 = .ok (.iconst 0, 1) := by decide +kernel
theorem dX2_exchange_15 : decode cX2_exchange 15 = .ok (.istore 4, 2) := by decide +kernel
theorem dX2_exchange_17 : decode cX2_exchange 17 = .ok (.aload_n 0, 1) := by decide +kernel
theorem dX2_exchange_18 : decode cX2_exchange 18 = .ok (.getfield 12, 3) := by decide +kernel
theorem dX2_exchange_21 : decode cX2_exchange 21 = .ok (.iload_n 1, 1) := by decide +kernel
theorem dX2_exchange_22 : decode cX2_exchange 22 = .ok (.invokevirtual 79, 3) := by decide +kernel
theorem dX2_exchange_25 : decode cX2_exchange 25 = .ok (.ifCond .eq 16, 3) := by decide +kernel
theorem dX2_exchange_28 : decode cX2_exchange 28 = .ok (.iload 4, 2) := by decide +kernel
theorem dX2_exchange_30 : decode cX2_exchange 30 = .ok (.ifCond .ne 14, 3) := by decide +kernel
theorem dX2_exchange_33 : decode cX2_exchange 33 = .ok (.iload_n 2, 1) := by decide +kernel
theorem dX2_exchange_34 : decode cX2_exchange 34 = .ok (.iload_n 3, 1) := by decide +kernel
theorem dX2_exchange_35 : decode cX2_exchange 35 = .ok (.invokestatic 62, 3) := by decide +kernel
theorem dX2_exchange_38 : decode cX2_exchange 38 = .ok (.ifCond .ne 6, 3) := by decide +kernel
theorem dX2_exchange_41 : decode cX2_exchange 41 = .ok (.ldc 66, 2) := by decide +kernel
theorem dX2_exchange_43 : decode cX2_exchange 43 = .ok (.ireturn, 1) := by decide +kernel
theorem dX2_exchange_44 : decode cX2_exchange 44 = .ok (.iload 4, 2) := by decide +kernel
theorem dX2_exchange_46 : decode cX2_exchange 46 = .ok (.ifCond .eq 7, 3) := by decide +kernel
theorem dX2_exchange_49 : decode cX2_exchange 49 = .ok (.iconst (-1), 1) := by decide +kernel
theorem dX2_exchange_50 : decode cX2_exchange 50 = .ok (.goto 8, 3) := by decide +kernel
theorem dX2_exchange_53 : decode cX2_exchange 53 = .ok (.iload_n 2, 1) := by decide +kernel
theorem dX2_exchange_54 : decode cX2_exchange 54 = .ok (.iload_n 3, 1) := by decide +kernel
theorem dX2_exchange_55 : decode cX2_exchange 55 = .ok (.invokestatic 67, 3) := by decide +kernel
theorem dX2_exchange_58 : decode cX2_exchange 58 = .ok (.istore 5, 2) := by decide +kernel
theorem dX2_exchange_60 : decode cX2_exchange 60 = .ok (.iload 4, 2) := by decide +kernel
theorem dX2_exchange_62 : decode cX2_exchange 62 = .ok (.ifCond .eq 14, 3) := by decide +kernel
theorem dX2_exchange_65 : decode cX2_exchange 65 = .ok (.aload_n 0, 1) := by decide +kernel
theorem dX2_exchange_66 : decode cX2_exchange 66 = .ok (.getfield 12, 3) := by decide +kernel
theorem dX2_exchange_69 : decode cX2_exchange 69 = .ok (.iload_n 1, 1) := by decide +kernel
theorem dX2_exchange_70 : decode cX2_exchange 70 = .ok (.invokevirtual 83, 3) := by decide +kernel
theorem dX2_exchange_73 : decode cX2_exchange 73 = .ok (.goto 33, 3) := by decide +kernel
theorem dX2_exchange_76 : decode cX2_exchange 76 = .ok (.aload_n 0, 1) := by decide +kernel
theorem dX2_exchange_77 : decode cX2_exchange 77 = .ok (.getfield 12, 3) := by decide +kernel
theorem dX2_exchange_80 : decode cX2_exchange 80 = .ok (.iload_n 1, 1) := by decide +kernel
theorem dX2_exchange_81 : decode cX2_exchange 81 = .ok (.invokevirtual 86, 3) := by decide +kernel
theorem dX2_exchange_84 : decode cX2_exchange 84 = .ok (.iconst (-1), 1) := by decide +kernel
theorem dX2_exchange_85 : decode cX2_exchange 85 = .ok (.if_icmp .ne 20, 3) := by decide +kernel
theorem dX2_exchange_88 : decode cX2_exchange 88 = .ok (.aload_n 0, 1) := by decide +kernel
theorem dX2_exchange_89 : decode cX2_exchange 89 = .ok (.getfield 12, 3) := by decide +kernel
theorem dX2_exchange_92 : decode cX2_exchange 92 = .ok (.iload 5, 2) := by decide +kernel
theorem dX2_exchange_94 : decode cX2_exchange 94 = .ok (.invokevirtual 71, 3) := by decide +kernel
theorem dX2_exchange_97 : decode cX2_exchange 97 = .ok (.iconst (-1), 1) := by decide +kernel
theorem dX2_exchange_98 : decode cX2_exchange 98 = .ok (.if_icmp .ne 7, 3) := by decide +kernel
theorem dX2_exchange_101 : decode cX2_exchange 101 = .ok (.iconst 1, 1) := by decide +kernel
theorem dX2_exchange_102 : decode cX2_exchange 102 = .ok (.goto 4, 3) := by decide +kernel
theorem dX2_exchange_105 : decode cX2_exchange 105 = .ok (.iconst 0, 1) := by decide +kernel
theorem dX2_exchange_106 : decode cX2_exchange 106 = .ok (.istore 6, 2) := by decide +kernel
theorem dX2_exchange_108 : decode cX2_exchange 108 = .ok (.iload 6, 2) := by decide +kernel
theorem dX2_exchange_110 : decode cX2_exchange 110 = .ok (.ifCond .ne 6, 3) := by decide +kernel
theorem dX2_exchange_113 : decode cX2_exchange 113 = .ok (.ldc 75, 2) := by decide +kernel
theorem dX2_exchange_115 : decode cX2_exchange 115 = .ok (.ireturn, 1) := by decide +kernel
theorem dX2_exchange_116 : decode cX2_exchange 116 = .ok (.aload_n 0, 1) := by decide +kernel
theorem dX2_exchange_117 : decode cX2_exchange 117 = .ok (.getfield 12, 3) := by decide +kernel
theorem dX2_exchange_120 : decode cX2_exchange 120 = .ok (.iload_n 1, 1) := by decide +kernel
theorem dX2_exchange_121 : decode cX2_exchange 121 = .ok (.iload 5, 2) := by decide +kernel
theorem dX2_exchange_123 : decode cX2_exchange 123 = .ok (.invokevirtual 89, 3) := by decide +kernel
theorem dX2_exchange_126 : decode cX2_exchange 126 = .ok (.aload_n 0, 1) := by decide +kernel
theorem dX2_exchange_127 : decode cX2_exchange 127 = .ok (.getfield 12, 3) := by decide +kernel
theorem dX2_exchange_130 : decode cX2_exchange 130 = .ok (.invokevirtual 93, 3) := by decide +kernel
theorem dX2_exchange_133 : decode cX2_exchange 133 = .ok (.ireturn, 1) := by decide +kernel
theorem dX2_liftFrom_0 : decode cX2_liftFrom 0 = .ok (.aload_n 0, 1) := by decide +kernel
theorem dX2_liftFrom_1 : decode cX2_liftFrom 1 = .ok (.getfield 32, 3) := by decide +kernel
theorem dX2_liftFrom_4 : decode cX2_liftFrom 4 = .ok (.iload_n 1, 1) := by decide +kernel
theorem dX2_liftFrom_5 : decode cX2_liftFrom 5 = .ok (.invokestatic 62, 3) := by decide +kernel
theorem dX2_liftFrom_8 : decode cX2_liftFrom 8 = .ok (.ifCond .ne 6, 3) := by decide +kernel
theorem dX2_liftFrom_11 : decode cX2_liftFrom 11 = .ok (.ldc 66, 2) := by decide +kernel
theorem dX2_liftFrom_13 : decode cX2_liftFrom 13 = .ok (.ireturn, 1) := by decide +kernel
theorem dX2_liftFrom_14 : decode cX2_liftFrom 14 = .ok (.aload_n 0, 1) := by decide +kernel
theorem dX2_liftFrom_15 : decode cX2_liftFrom 15 = .ok (.aload_n 0, 1) := by decide +kernel
theorem dX2_liftFrom_16 : decode cX2_liftFrom 16 = .ok (.getfield 12, 3) := by decide +kernel
theorem dX2_liftFrom_19 : decode cX2_liftFrom 19 = .ok (.aload_n 0, 1) := by decide +kernel
theorem dX2_liftFrom_20 : decode cX2_liftFrom 20 = .ok (.getfield 32, 3) := by decide +kernel
theorem dX2_liftFrom_23 : decode cX2_liftFrom 23 = .ok (.iload_n 1, 1) := by decide +kernel
theorem dX2_liftFrom_24 : decode cX2_liftFrom 24 = .ok (.invokestatic 67, 3) := by decide +kernel
theorem dX2_liftFrom_27 : decode cX2_liftFrom 27 = .ok (.invokevirtual 71, 3) := by decide +kernel
theorem dX2_liftFrom_30 : decode cX2_liftFrom 30 = .ok (.iconst 1, 1) := by decide +kernel
theorem dX2_liftFrom_31 : decode cX2_liftFrom 31 = .ok (.invokevirtual 97, 3) := by decide +kernel
theorem dX2_liftFrom_34 : decode cX2_liftFrom 34 = .ok (.ireturn, 1) := by decide +kernel
theorem dX2_layOn_0 : decode cX2_layOn 0 = .ok (.aload_n 0, 1) := by decide +kernel
theorem dX2_layOn_1 : decode cX2_layOn 1 = .ok (.getfield 32, 3) := by decide +kernel
theorem dX2_layOn_4 : decode cX2_layOn 4 = .ok (.iload_n 1, 1) := by decide +kernel
theorem dX2_layOn_5 : decode cX2_layOn 5 = .ok (.invokestatic 62, 3) := by decide +kernel
theorem dX2_layOn_8 : decode cX2_layOn 8 = .ok (.ifCond .ne 6, 3) := by decide +kernel
theorem dX2_layOn_11 : decode cX2_layOn 11 = .ok (.ldc 66, 2) := by decide +kernel
theorem dX2_layOn_13 : decode cX2_layOn 13 = .ok (.ireturn, 1) := by decide +kernel
theorem dX2_layOn_14 : decode cX2_layOn 14 = .ok (.aload_n 0, 1) := by decide +kernel
theorem dX2_layOn_15 : decode cX2_layOn 15 = .ok (.getfield 32, 3) := by decide +kernel
theorem dX2_layOn_18 : decode cX2_layOn 18 = .ok (.iload_n 1, 1) := by decide +kernel
theorem dX2_layOn_19 : decode cX2_layOn 19 = .ok (.invokestatic 67, 3) := by decide +kernel
theorem dX2_layOn_22 : decode cX2_layOn 22 = .ok (.istore_n 2, 1) := by decide +kernel
theorem dX2_layOn_23 : decode cX2_layOn 23 = .ok (.aload_n 0, 1) := by decide +kernel
theorem dX2_layOn_24 : decode cX2_layOn 24 = .ok (.invokevirtual 100, 3) := by decide +kernel
theorem dX2_layOn_27 : decode cX2_layOn 27 = .ok (.istore_n 3, 1) := by decide +kernel
theorem dX2_layOn_28 : decode cX2_layOn 28 = .ok (.iload_n 3, 1) := by decide +kernel
theorem dX2_layOn_29 : decode cX2_layOn 29 = .ok (.iconst (-1), 1) := by decide +kernel
theorem dX2_layOn_30 : decode cX2_layOn 30 = .ok (.if_icmp .eq 15, 3) := by decide +kernel
theorem dX2_layOn_33 : decode cX2_layOn 33 = .ok (.aload_n 0, 1) := by decide +kernel
theorem dX2_layOn_34 : decode cX2_layOn 34 = .ok (.getfield 12, 3) := by decide +kernel
theorem dX2_layOn_37 : decode cX2_layOn 37 = .ok (.iload_n 2, 1) := by decide +kernel
theorem dX2_layOn_38 : decode cX2_layOn 38 = .ok (.invokevirtual 71, 3) := by decide +kernel
theorem dX2_layOn_41 : decode cX2_layOn 41 = .ok (.iconst (-1), 1) := by decide +kernel
theorem dX2_layOn_42 : decode cX2_layOn 42 = .ok (.if_icmp .eq 6, 3) := by decide +kernel
theorem dX2_layOn_45 : decode cX2_layOn 45 = .ok (.ldc 75, 2) := by decide +kernel
theorem dX2_layOn_47 : decode cX2_layOn 47 = .ok (.ireturn, 1) := by decide +kernel
theorem dX2_layOn_48 : decode cX2_layOn 48 = .ok (.aload_n 0, 1) := by decide +kernel
theorem dX2_layOn_49 : decode cX2_layOn 49 = .ok (.iload_n 3, 1) := by decide +kernel
theorem dX2_layOn_50 : decode cX2_layOn 50 = .ok (.iload_n 2, 1) := by decide +kernel
theorem dX2_layOn_51 : decode cX2_layOn 51 = .ok (.iconst 1, 1) := by decide +kernel
theorem dX2_layOn_52 : decode cX2_layOn 52 = .ok (.invokevirtual 103, 3) := by decide +kernel
theorem dX2_layOn_55 : decode cX2_layOn 55 = .ok (.iload_n 3, 1) := by decide +kernel
theorem dX2_layOn_56 : decode cX2_layOn 56 = .ok (.ireturn, 1) := by decide +kernel
theorem dX2_weighPallet_0 : decode cX2_weighPallet 0 = .ok (.aload_n 0, 1) := by decide +kernel
theorem dX2_weighPallet_1 : decode cX2_weighPallet 1 = .ok (.iconst 1, 1) := by decide +kernel
theorem dX2_weighPallet_2 : decode cX2_weighPallet 2 = .ok (.putfield 36, 3) := by decide +kernel
theorem dX2_weighPallet_5 : decode cX2_weighPallet 5 = .ok (.aload_n 0, 1) := by decide +kernel
theorem dX2_weighPallet_6 : decode cX2_weighPallet 6 = .ok (.dup, 1) := by decide +kernel
theorem dX2_weighPallet_7 : decode cX2_weighPallet 7 = .ok (.getfield 49, 3) := by decide +kernel
theorem dX2_weighPallet_10 : decode cX2_weighPallet 10 = .ok (.iconst 1, 1) := by decide +kernel
theorem dX2_weighPallet_11 : decode cX2_weighPallet 11 = .ok (.iadd, 1) := by decide +kernel
theorem dX2_weighPallet_12 : decode cX2_weighPallet 12 = .ok (.putfield 49, 3) := by decide +kernel
theorem dX2_weighPallet_15 : decode cX2_weighPallet 15 = .ok (.aload_n 0, 1) := by decide +kernel
theorem dX2_weighPallet_16 : decode cX2_weighPallet 16 = .ok (.getfield 43, 3) := by decide +kernel
theorem dX2_weighPallet_19 : decode cX2_weighPallet 19 = .ok (.ireturn, 1) := by decide +kernel
theorem dX2_turnBy_0 : decode cX2_turnBy 0 = .ok (.iload_n 1, 1) := by decide +kernel
theorem dX2_turnBy_1 : decode cX2_turnBy 1 = .ok (.ifCond .eq 13, 3) := by decide +kernel
theorem dX2_turnBy_4 : decode cX2_turnBy 4 = .ok (.iload_n 1, 1) := by decide +kernel
theorem dX2_turnBy_5 : decode cX2_turnBy 5 = .ok (.bipush (-4), 2) := by decide +kernel
theorem dX2_turnBy_7 : decode cX2_turnBy 7 = .ok (.iconst 4, 1) := by decide +kernel
theorem dX2_turnBy_8 : decode cX2_turnBy 8 = .ok (.invokestatic 58, 3) := by decide +kernel
theorem dX2_turnBy_11 : decode cX2_turnBy 11 = .ok (.ifCond .ne 6, 3) := by decide +kernel
theorem dX2_turnBy_14 : decode cX2_turnBy 14 = .ok (.ldc 66, 2) := by decide +kernel
theorem dX2_turnBy_16 : decode cX2_turnBy 16 = .ok (.ireturn, 1) := by decide +kernel
theorem dX2_turnBy_17 : decode cX2_turnBy 17 = .ok (.iload_n 1, 1) := by decide +kernel
theorem dX2_turnBy_18 : decode cX2_turnBy 18 = .ok (.invokestatic 107, 3) := by decide +kernel
theorem dX2_turnBy_21 : decode cX2_turnBy 21 = .ok (.istore_n 2, 1) := by decide +kernel
theorem dX2_turnBy_22 : decode cX2_turnBy 22 = .ok (.aload_n 0, 1) := by decide +kernel
theorem dX2_turnBy_23 : decode cX2_turnBy 23 = .ok (.getfield 36, 3) := by decide +kernel
theorem dX2_turnBy_26 : decode cX2_turnBy 26 = .ok (.ifCond .eq 14, 3) := by decide +kernel
theorem dX2_turnBy_29 : decode cX2_turnBy 29 = .ok (.iload_n 2, 1) := by decide +kernel
theorem dX2_turnBy_30 : decode cX2_turnBy 30 = .ok (.aload_n 0, 1) := by decide +kernel
theorem dX2_turnBy_31 : decode cX2_turnBy 31 = .ok (.getfield 43, 3) := by decide +kernel
theorem dX2_turnBy_34 : decode cX2_turnBy 34 = .ok (.invokestatic 112, 3) := by decide +kernel
theorem dX2_turnBy_37 : decode cX2_turnBy 37 = .ok (.if_icmp .le 6, 3) := by decide +kernel
theorem dX2_turnBy_40 : decode cX2_turnBy 40 = .ok (.ldc 75, 2) := by decide +kernel
theorem dX2_turnBy_42 : decode cX2_turnBy 42 = .ok (.ireturn, 1) := by decide +kernel
theorem dX2_turnBy_43 : decode cX2_turnBy 43 = .ok (.aload_n 0, 1) := by decide +kernel
theorem dX2_turnBy_44 : decode cX2_turnBy 44 = .ok (.aload_n 0, 1) := by decide +kernel
theorem dX2_turnBy_45 : decode cX2_turnBy 45 = .ok (.getfield 32, 3) := by decide +kernel
theorem dX2_turnBy_48 : decode cX2_turnBy 48 = .ok (.iload_n 1, 1) := by decide +kernel
theorem dX2_turnBy_49 : decode cX2_turnBy 49 = .ok (.iadd, 1) := by decide +kernel
theorem dX2_turnBy_50 : decode cX2_turnBy 50 = .ok (.bipush 8, 2) := by decide +kernel
theorem dX2_turnBy_52 : decode cX2_turnBy 52 = .ok (.iadd, 1) := by decide +kernel
theorem dX2_turnBy_53 : decode cX2_turnBy 53 = .ok (.bipush 8, 2) := by decide +kernel
theorem dX2_turnBy_55 : decode cX2_turnBy 55 = .ok (.irem, 1) := by decide +kernel
theorem dX2_turnBy_56 : decode cX2_turnBy 56 = .ok (.putfield 32, 3) := by decide +kernel
theorem dX2_turnBy_59 : decode cX2_turnBy 59 = .ok (.aload_n 0, 1) := by decide +kernel
theorem dX2_turnBy_60 : decode cX2_turnBy 60 = .ok (.iconst 0, 1) := by decide +kernel
theorem dX2_turnBy_61 : decode cX2_turnBy 61 = .ok (.putfield 36, 3) := by decide +kernel
theorem dX2_turnBy_64 : decode cX2_turnBy 64 = .ok (.aload_n 0, 1) := by decide +kernel
theorem dX2_turnBy_65 : decode cX2_turnBy 65 = .ok (.dup, 1) := by decide +kernel
theorem dX2_turnBy_66 : decode cX2_turnBy 66 = .ok (.getfield 49, 3) := by decide +kernel
theorem dX2_turnBy_69 : decode cX2_turnBy 69 = .ok (.iload_n 2, 1) := by decide +kernel
theorem dX2_turnBy_70 : decode cX2_turnBy 70 = .ok (.iconst 1, 1) := by decide +kernel
theorem dX2_turnBy_71 : decode cX2_turnBy 71 = .ok (.aload_n 0, 1) := by decide +kernel
theorem dX2_turnBy_72 : decode cX2_turnBy 72 = .ok (.getfield 43, 3) := by decide +kernel
theorem dX2_turnBy_75 : decode cX2_turnBy 75 = .ok (.bipush 10, 2) := by decide +kernel
theorem dX2_turnBy_77 : decode cX2_turnBy 77 = .ok (.idiv, 1) := by decide +kernel
theorem dX2_turnBy_78 : decode cX2_turnBy 78 = .ok (.iadd, 1) := by decide +kernel
theorem dX2_turnBy_79 : decode cX2_turnBy 79 = .ok (.imul, 1) := by decide +kernel
theorem dX2_turnBy_80 : decode cX2_turnBy 80 = .ok (.iadd, 1) := by decide +kernel
theorem dX2_turnBy_81 : decode cX2_turnBy 81 = .ok (.putfield 49, 3) := by decide +kernel
theorem dX2_turnBy_84 : decode cX2_turnBy 84 = .ok (.aload_n 0, 1) := by decide +kernel
theorem dX2_turnBy_85 : decode cX2_turnBy 85 = .ok (.dup, 1) := by decide +kernel
theorem dX2_turnBy_86 : decode cX2_turnBy 86 = .ok (.getfield 52, 3) := by decide +kernel
theorem dX2_turnBy_89 : decode cX2_turnBy 89 = .ok (.iconst 1, 1) := by decide +kernel
theorem dX2_turnBy_90 : decode cX2_turnBy 90 = .ok (.iadd, 1) := by decide +kernel
theorem dX2_turnBy_91 : decode cX2_turnBy 91 = .ok (.putfield 52, 3) := by decide +kernel
theorem dX2_turnBy_94 : decode cX2_turnBy 94 = .ok (.aload_n 0, 1) := by decide +kernel
theorem dX2_turnBy_95 : decode cX2_turnBy 95 = .ok (.getfield 32, 3) := by decide +kernel
theorem dX2_turnBy_98 : decode cX2_turnBy 98 = .ok (.ireturn, 1) := by decide +kernel
theorem dX2_mountIn_0 : decode cX2_mountIn 0 = .ok (.iload_n 1, 1) := by decide +kernel
theorem dX2_mountIn_1 : decode cX2_mountIn 1 = .ok (.iconst 0, 1) := by decide +kernel
theorem dX2_mountIn_2 : decode cX2_mountIn 2 = .ok (.iconst 1, 1) := by decide +kernel
theorem dX2_mountIn_3 : decode cX2_mountIn 3 = .ok (.invokestatic 58, 3) := by decide +kernel
theorem dX2_mountIn_6 : decode cX2_mountIn 6 = .ok (.ifCond .ne 6, 3) := by decide +kernel
theorem dX2_mountIn_9 : decode cX2_mountIn 9 = .ok (.ldc 66, 2) := by decide +kernel
theorem dX2_mountIn_11 : decode cX2_mountIn 11 = .ok (.ireturn, 1) := by decide +kernel
theorem dX2_mountIn_12 : decode cX2_mountIn 12 = .ok (.aload_n 0, 1) := by decide +kernel
theorem dX2_mountIn_13 : decode cX2_mountIn 13 = .ok (.invokevirtual 100, 3) := by decide +kernel
theorem dX2_mountIn_16 : decode cX2_mountIn 16 = .ok (.istore_n 2, 1) := by decide +kernel
theorem dX2_mountIn_17 : decode cX2_mountIn 17 = .ok (.aload_n 0, 1) := by decide +kernel
theorem dX2_mountIn_18 : decode cX2_mountIn 18 = .ok (.getfield 32, 3) := by decide +kernel
theorem dX2_mountIn_21 : decode cX2_mountIn 21 = .ok (.iload_n 1, 1) := by decide +kernel
theorem dX2_mountIn_22 : decode cX2_mountIn 22 = .ok (.invokestatic 115, 3) := by decide +kernel
theorem dX2_mountIn_25 : decode cX2_mountIn 25 = .ok (.if_icmp .ne 28, 3) := by decide +kernel
theorem dX2_mountIn_28 : decode cX2_mountIn 28 = .ok (.iload_n 2, 1) := by decide +kernel
theorem dX2_mountIn_29 : decode cX2_mountIn 29 = .ok (.iconst (-1), 1) := by decide +kernel
theorem dX2_mountIn_30 : decode cX2_mountIn 30 = .ok (.if_icmp .eq 23, 3) := by decide +kernel
theorem dX2_mountIn_33 : decode cX2_mountIn 33 = .ok (.aload_n 0, 1) := by decide +kernel
theorem dX2_mountIn_34 : decode cX2_mountIn 34 = .ok (.iload_n 1, 1) := by decide +kernel
theorem dX2_mountIn_35 : decode cX2_mountIn 35 = .ok (.invokevirtual 118, 3) := by decide +kernel
theorem dX2_mountIn_38 : decode cX2_mountIn 38 = .ok (.iconst (-1), 1) := by decide +kernel
theorem dX2_mountIn_39 : decode cX2_mountIn 39 = .ok (.if_icmp .ne 14, 3) := by decide +kernel
theorem dX2_mountIn_42 : decode cX2_mountIn 42 = .ok (.aload_n 0, 1) := by decide +kernel
theorem dX2_mountIn_43 : decode cX2_mountIn 43 = .ok (.getfield 12, 3) := by decide +kernel
theorem dX2_mountIn_46 : decode cX2_mountIn 46 = .ok (.iload_n 2, 1) := by decide +kernel
theorem dX2_mountIn_47 : decode cX2_mountIn 47 = .ok (.invokevirtual 121, 3) := by decide +kernel
theorem dX2_mountIn_50 : decode cX2_mountIn 50 = .ok (.ifCond .eq 6, 3) := by decide +kernel
theorem dX2_mountIn_53 : decode cX2_mountIn 53 = .ok (.ldc 75, 2) := by decide +kernel
theorem dX2_mountIn_55 : decode cX2_mountIn 55 = .ok (.ireturn, 1) := by decide +kernel
theorem dX2_mountIn_56 : decode cX2_mountIn 56 = .ok (.aload_n 0, 1) := by decide +kernel
theorem dX2_mountIn_57 : decode cX2_mountIn 57 = .ok (.iload_n 2, 1) := by decide +kernel
theorem dX2_mountIn_58 : decode cX2_mountIn 58 = .ok (.bipush 35, 2) := by decide +kernel
theorem dX2_mountIn_60 : decode cX2_mountIn 60 = .ok (.iload_n 1, 1) := by decide +kernel
theorem dX2_mountIn_61 : decode cX2_mountIn 61 = .ok (.iadd, 1) := by decide +kernel
theorem dX2_mountIn_62 : decode cX2_mountIn 62 = .ok (.iconst 3, 1) := by decide +kernel
theorem dX2_mountIn_63 : decode cX2_mountIn 63 = .ok (.invokevirtual 103, 3) := by decide +kernel
theorem dX2_mountIn_66 : decode cX2_mountIn 66 = .ok (.aload_n 0, 1) := by decide +kernel
theorem dX2_mountIn_67 : decode cX2_mountIn 67 = .ok (.getfield 21, 3) := by decide +kernel
theorem dX2_mountIn_70 : decode cX2_mountIn 70 = .ok (.iload_n 2, 1) := by decide +kernel
theorem dX2_mountIn_71 : decode cX2_mountIn 71 = .ok (.aload_n 0, 1) := by decide +kernel
theorem dX2_mountIn_72 : decode cX2_mountIn 72 = .ok (.getfield 12, 3) := by decide +kernel
theorem dX2_mountIn_75 : decode cX2_mountIn 75 = .ok (.invokevirtual 124, 3) := by decide +kernel
theorem dX2_mountIn_78 : decode cX2_mountIn 78 = .ok (.istore_n 3, 1) := by decide +kernel
theorem dX2_mountIn_79 : decode cX2_mountIn 79 = .ok (.aload_n 0, 1) := by decide +kernel
theorem dX2_mountIn_80 : decode cX2_mountIn 80 = .ok (.getfield 12, 3) := by decide +kernel
theorem dX2_mountIn_83 : decode cX2_mountIn 83 = .ok (.iload_n 2, 1) := by decide +kernel
theorem dX2_mountIn_84 : decode cX2_mountIn 84 = .ok (.iload_n 3, 1) := by decide +kernel
theorem dX2_mountIn_85 : decode cX2_mountIn 85 = .ok (.invokevirtual 128, 3) := by decide +kernel
theorem dX2_mountIn_88 : decode cX2_mountIn 88 = .ok (.aload_n 0, 1) := by decide +kernel
theorem dX2_mountIn_89 : decode cX2_mountIn 89 = .ok (.dup, 1) := by decide +kernel
theorem dX2_mountIn_90 : decode cX2_mountIn 90 = .ok (.getfield 55, 3) := by decide +kernel
theorem dX2_mountIn_93 : decode cX2_mountIn 93 = .ok (.iload_n 3, 1) := by decide +kernel
theorem dX2_mountIn_94 : decode cX2_mountIn 94 = .ok (.iadd, 1) := by decide +kernel
theorem dX2_mountIn_95 : decode cX2_mountIn 95 = .ok (.putfield 55, 3) := by decide +kernel
theorem dX2_mountIn_98 : decode cX2_mountIn 98 = .ok (.aload_n 0, 1) := by decide +kernel
theorem dX2_mountIn_99 : decode cX2_mountIn 99 = .ok (.iload_n 1, 1) := by decide +kernel
theorem dX2_mountIn_100 : decode cX2_mountIn 100 = .ok (.putfield 46, 3) := by decide +kernel
theorem dX2_mountIn_103 : decode cX2_mountIn 103 = .ok (.iload_n 3, 1) := by decide +kernel
theorem dX2_mountIn_104 : decode cX2_mountIn 104 = .ok (.ireturn, 1) := by decide +kernel
theorem dX2_takeFrom_0 : decode cX2_takeFrom 0 = .ok (.iload_n 1, 1) := by decide +kernel
theorem dX2_takeFrom_1 : decode cX2_takeFrom 1 = .ok (.iconst 0, 1) := by decide +kernel
theorem dX2_takeFrom_2 : decode cX2_takeFrom 2 = .ok (.iconst 1, 1) := by decide +kernel
theorem dX2_takeFrom_3 : decode cX2_takeFrom 3 = .ok (.invokestatic 58, 3) := by decide +kernel
theorem dX2_takeFrom_6 : decode cX2_takeFrom 6 = .ok (.ifCond .ne 6, 3) := by decide +kernel
theorem dX2_takeFrom_9 : decode cX2_takeFrom 9 = .ok (.ldc 66, 2) := by decide +kernel
theorem dX2_takeFrom_11 : decode cX2_takeFrom 11 = .ok (.ireturn, 1) := by decide +kernel
theorem dX2_takeFrom_12 : decode cX2_takeFrom 12 = .ok (.aload_n 0, 1) := by decide +kernel
theorem dX2_takeFrom_13 : decode cX2_takeFrom 13 = .ok (.getfield 32, 3) := by decide +kernel
theorem dX2_takeFrom_16 : decode cX2_takeFrom 16 = .ok (.iload_n 1, 1) := by decide +kernel
theorem dX2_takeFrom_17 : decode cX2_takeFrom 17 = .ok (.invokestatic 115, 3) := by decide +kernel
theorem dX2_takeFrom_20 : decode cX2_takeFrom 20 = .ok (.if_icmp .eq 6, 3) := by decide +kernel
theorem dX2_takeFrom_23 : decode cX2_takeFrom 23 = .ok (.ldc 75, 2) := by decide +kernel
theorem dX2_takeFrom_25 : decode cX2_takeFrom 25 = .ok (.ireturn, 1) := by decide +kernel
theorem dX2_takeFrom_26 : decode cX2_takeFrom 26 = .ok (.aload_n 0, 1) := by decide +kernel
theorem dX2_takeFrom_27 : decode cX2_takeFrom 27 = .ok (.aload_n 0, 1) := by decide +kernel
theorem dX2_takeFrom_28 : decode cX2_takeFrom 28 = .ok (.iload_n 1, 1) := by decide +kernel
theorem dX2_takeFrom_29 : decode cX2_takeFrom 29 = .ok (.invokevirtual 118, 3) := by decide +kernel
theorem dX2_takeFrom_32 : decode cX2_takeFrom 32 = .ok (.iconst 2, 1) := by decide +kernel
theorem dX2_takeFrom_33 : decode cX2_takeFrom 33 = .ok (.invokevirtual 97, 3) := by decide +kernel
theorem dX2_takeFrom_36 : decode cX2_takeFrom 36 = .ok (.ireturn, 1) := by decide +kernel
theorem dX2_holdFile_0 : decode cX2_holdFile 0 = .ok (.aload_n 0, 1) := by decide +kernel
theorem dX2_holdFile_1 : decode cX2_holdFile 1 = .ok (.getfield 12, 3) := by decide +kernel
theorem dX2_holdFile_4 : decode cX2_holdFile 4 = .ok (.iload_n 1, 1) := by decide +kernel
theorem dX2_holdFile_5 : decode cX2_holdFile 5 = .ok (.invokevirtual 79, 3) := by decide +kernel
theorem dX2_holdFile_8 : decode cX2_holdFile 8 = .ok (.ifCond .eq 13, 3) := by decide +kernel
theorem dX2_holdFile_11 : decode cX2_holdFile 11 = .ok (.iload_n 2, 1) := by decide +kernel
theorem dX2_holdFile_12 : decode cX2_holdFile 12 = .ok (.iconst 0, 1) := by decide +kernel
theorem dX2_holdFile_13 : decode cX2_holdFile 13 = .ok (.bipush 59, 2) := by decide +kernel
theorem dX2_holdFile_15 : decode cX2_holdFile 15 = .ok (.invokestatic 58, 3) := by decide +kernel
theorem dX2_holdFile_18 : decode cX2_holdFile 18 = .ok (.ifCond .ne 6, 3) := by decide +kernel
theorem dX2_holdFile_21 : decode cX2_holdFile 21 = .ok (.ldc 66, 2) := by decide +kernel
theorem dX2_holdFile_23 : decode cX2_holdFile 23 = .ok (.ireturn, 1) := by decide +kernel
theorem dX2_holdFile_24 : decode cX2_holdFile 24 = .ok (.aload_n 0, 1) := by decide +kernel
theorem dX2_holdFile_25 : decode cX2_holdFile 25 = .ok (.getfield 12, 3) := by decide +kernel
theorem dX2_holdFile_28 : decode cX2_holdFile 28 = .ok (.iload_n 1, 1) := by decide +kernel
theorem dX2_holdFile_29 : decode cX2_holdFile 29 = .ok (.invokevirtual 86, 3) := by decide +kernel
theorem dX2_holdFile_32 : decode cX2_holdFile 32 = .ok (.iconst (-1), 1) := by decide +kernel
theorem dX2_holdFile_33 : decode cX2_holdFile 33 = .ok (.if_icmp .ne 6, 3) := by decide +kernel
theorem dX2_holdFile_36 : decode cX2_holdFile 36 = .ok (.ldc 75, 2) := by decide +kernel
theorem dX2_holdFile_38 : decode cX2_holdFile 38 = .ok (.ireturn, 1) := by decide +kernel
theorem dX2_holdFile_39 : decode cX2_holdFile 39 = .ok (.aload_n 0, 1) := by decide +kernel
theorem dX2_holdFile_40 : decode cX2_holdFile 40 = .ok (.getfield 12, 3) := by decide +kernel
theorem dX2_holdFile_43 : decode cX2_holdFile 43 = .ok (.iload_n 2, 1) := by decide +kernel
theorem dX2_holdFile_44 : decode cX2_holdFile 44 = .ok (.invokevirtual 131, 3) := by decide +kernel
theorem dX2_holdFile_47 : decode cX2_holdFile 47 = .ok (.istore_n 3, 1) := by decide +kernel
theorem dX2_holdFile_48 : decode cX2_holdFile 48 = .ok (.iload_n 3, 1) := by decide +kernel
theorem dX2_holdFile_49 : decode cX2_holdFile 49 = .ok (.iload_n 1, 1) := by decide +kernel
theorem dX2_holdFile_50 : decode cX2_holdFile 50 = .ok (.if_icmp .eq 18, 3) := by decide +kernel
theorem dX2_holdFile_53 : decode cX2_holdFile 53 = .ok (.aload_n 0, 1) := by decide +kernel
theorem dX2_holdFile_54 : decode cX2_holdFile 54 = .ok (.getfield 12, 3) := by decide +kernel
theorem dX2_holdFile_57 : decode cX2_holdFile 57 = .ok (.iload_n 1, 1) := by decide +kernel
theorem dX2_holdFile_58 : decode cX2_holdFile 58 = .ok (.invokevirtual 134, 3) := by decide +kernel
theorem dX2_holdFile_61 : decode cX2_holdFile 61 = .ok (.iconst 4, 1) := by decide +kernel
theorem dX2_holdFile_62 : decode cX2_holdFile 62 = .ok (.if_icmp .lt 6, 3) := by decide +kernel
theorem dX2_holdFile_65 : decode cX2_holdFile 65 = .ok (.ldc 137, 2) := by decide +kernel
theorem dX2_holdFile_67 : decode cX2_holdFile 67 = .ok (.ireturn, 1) := by decide +kernel
theorem dX2_holdFile_68 : decode cX2_holdFile 68 = .ok (.aload_n 0, 1) := by decide +kernel
theorem dX2_holdFile_69 : decode cX2_holdFile 69 = .ok (.getfield 12, 3) := by decide +kernel
theorem dX2_holdFile_72 : decode cX2_holdFile 72 = .ok (.iload_n 1, 1) := by decide +kernel
theorem dX2_holdFile_73 : decode cX2_holdFile 73 = .ok (.iload_n 2, 1) := by decide +kernel
theorem dX2_holdFile_74 : decode cX2_holdFile 74 = .ok (.invokevirtual 138, 3) := by decide +kernel
theorem dX2_holdFile_77 : decode cX2_holdFile 77 = .ok (.iload_n 3, 1) := by decide +kernel
theorem dX2_holdFile_78 : decode cX2_holdFile 78 = .ok (.ireturn, 1) := by decide +kernel
theorem dX2_addRequest_0 : decode cX2_addRequest 0 = .ok (.iload_n 1, 1) := by decide +kernel
theorem dX2_addRequest_1 : decode cX2_addRequest 1 = .ok (.iconst 0, 1) := by decide +kernel
theorem dX2_addRequest_2 : decode cX2_addRequest 2 = .ok (.bipush 59, 2) := by decide +kernel
theorem dX2_addRequest_4 : decode cX2_addRequest 4 = .ok (.invokestatic 58, 3) := by decide +kernel
theorem dX2_addRequest_7 : decode cX2_addRequest 7 = .ok (.ifCond .eq 13, 3) := by decide +kernel
theorem dX2_addRequest_10 : decode cX2_addRequest 10 = .ok (.iload_n 2, 1) := by decide +kernel
theorem dX2_addRequest_11 : decode cX2_addRequest 11 = .ok (.iconst 0, 1) := by decide +kernel
theorem dX2_addRequest_12 : decode cX2_addRequest 12 = .ok (.bipush 9, 2) := by decide +kernel
theorem dX2_addRequest_14 : decode cX2_addRequest 14 = .ok (.invokestatic 58, 3) := by decide +kernel
theorem dX2_addRequest_17 : decode cX2_addRequest 17 = .ok (.ifCond .ne 6, 3) := by decide +kernel
theorem dX2_addRequest_20 : decode cX2_addRequest 20 = .ok (.ldc 66, 2) := by decide +kernel
theorem dX2_addRequest_22 : decode cX2_addRequest 22 = .ok (.ireturn, 1) := by decide +kernel
theorem dX2_addRequest_23 : decode cX2_addRequest 23 = .ok (.aload_n 0, 1) := by decide +kernel
theorem dX2_addRequest_24 : decode cX2_addRequest 24 = .ok (.getfield 21, 3) := by decide +kernel
theorem dX2_addRequest_27 : decode cX2_addRequest 27 = .ok (.iload_n 1, 1) := by decide +kernel
theorem dX2_addRequest_28 : decode cX2_addRequest 28 = .ok (.iload_n 2, 1) := by decide +kernel
theorem dX2_addRequest_29 : decode cX2_addRequest 29 = .ok (.aload_n 0, 1) := by decide +kernel
theorem dX2_addRequest_30 : decode cX2_addRequest 30 = .ok (.getfield 49, 3) := by decide +kernel
theorem dX2_addRequest_33 : decode cX2_addRequest 33 = .ok (.invokevirtual 141, 3) := by decide +kernel
theorem dX2_addRequest_36 : decode cX2_addRequest 36 = .ok (.ireturn, 1) := by decide +kernel
theorem dX2_serveBy_0 : decode cX2_serveBy 0 = .ok (.iload_n 1, 1) := by decide +kernel
theorem dX2_serveBy_1 : decode cX2_serveBy 1 = .ok (.invokestatic 144, 3) := by decide +kernel
theorem dX2_serveBy_4 : decode cX2_serveBy 4 = .ok (.ifCond .ne 6, 3) := by decide +kernel
theorem dX2_serveBy_7 : decode cX2_serveBy 7 = .ok (.ldc 66, 2) := by decide +kernel
theorem dX2_serveBy_9 : decode cX2_serveBy 9 = .ok (.ireturn, 1) := by decide +kernel
theorem dX2_serveBy_10 : decode cX2_serveBy 10 = .ok (.aload_n 0, 1) := by decide +kernel
theorem dX2_serveBy_11 : decode cX2_serveBy 11 = .ok (.aload_n 0, 1) := by decide +kernel
theorem dX2_serveBy_12 : decode cX2_serveBy 12 = .ok (.iload_n 1, 1) := by decide +kernel
theorem dX2_serveBy_13 : decode cX2_serveBy 13 = .ok (.invokevirtual 147, 3) := by decide +kernel
theorem dX2_serveBy_16 : decode cX2_serveBy 16 = .ok (.invokevirtual 150, 3) := by decide +kernel
theorem dX2_serveBy_19 : decode cX2_serveBy 19 = .ok (.istore_n 2, 1) := by decide +kernel
theorem dX2_serveBy_20 : decode cX2_serveBy 20 = .ok (.aload_n 0, 1) := by decide +kernel
theorem dX2_serveBy_21 : decode cX2_serveBy 21 = .ok (.getfield 40, 3) := by decide +kernel
theorem dX2_serveBy_24 : decode cX2_serveBy 24 = .ok (.ifCond .gt 8, 3) := by decide +kernel
theorem dX2_serveBy_27 : decode cX2_serveBy 27 = .ok (.iload_n 2, 1) := by decide +kernel
theorem dX2_serveBy_28 : decode cX2_serveBy 28 = .ok (.iconst (-1), 1) := by decide +kernel
theorem dX2_serveBy_29 : decode cX2_serveBy 29 = .ok (.if_icmp .ne 6, 3) := by decide +kernel
theorem dX2_serveBy_32 : decode cX2_serveBy 32 = .ok (.ldc 75, 2) := by decide +kernel
theorem dX2_serveBy_34 : decode cX2_serveBy 34 = .ok (.ireturn, 1) := by decide +kernel
theorem dX2_serveBy_35 : decode cX2_serveBy 35 = .ok (.aload_n 0, 1) := by decide +kernel
theorem dX2_serveBy_36 : decode cX2_serveBy 36 = .ok (.iload_n 2, 1) := by decide +kernel
theorem dX2_serveBy_37 : decode cX2_serveBy 37 = .ok (.invokevirtual 153, 3) := by decide +kernel
theorem dX2_serveBy_40 : decode cX2_serveBy 40 = .ok (.istore_n 3, 1) := by decide +kernel
theorem dX2_serveBy_41 : decode cX2_serveBy 41 = .ok (.iload_n 3, 1) := by decide +kernel
theorem dX2_serveBy_42 : decode cX2_serveBy 42 = .ok (.invokestatic 115, 3) := by decide +kernel
theorem dX2_serveBy_45 : decode cX2_serveBy 45 = .ok (.istore 4, 2) := by decide +kernel
theorem dX2_serveBy_47 : decode cX2_serveBy 47 = .ok (.aload_n 0, 1) := by decide +kernel
theorem dX2_serveBy_48 : decode cX2_serveBy 48 = .ok (.iload_n 3, 1) := by decide +kernel
theorem dX2_serveBy_49 : decode cX2_serveBy 49 = .ok (.invokevirtual 118, 3) := by decide +kernel
theorem dX2_serveBy_52 : decode cX2_serveBy 52 = .ok (.iconst (-1), 1) := by decide +kernel
theorem dX2_serveBy_53 : decode cX2_serveBy 53 = .ok (.if_icmp .eq 52, 3) := by decide +kernel
theorem dX2_serveBy_56 : decode cX2_serveBy 56 = .ok (.aload_n 0, 1) := by decide +kernel
theorem dX2_serveBy_57 : decode cX2_serveBy 57 = .ok (.getfield 12, 3) := by decide +kernel
theorem dX2_serveBy_60 : decode cX2_serveBy 60 = .ok (.iload 4, 2) := by decide +kernel
theorem dX2_serveBy_62 : decode cX2_serveBy 62 = .ok (.invokevirtual 156, 3) := by decide +kernel
theorem dX2_serveBy_65 : decode cX2_serveBy 65 = .ok (.istore 5, 2) := by decide +kernel
theorem dX2_serveBy_67 : decode cX2_serveBy 67 = .ok (.iload 5, 2) := by decide +kernel
theorem dX2_serveBy_69 : decode cX2_serveBy 69 = .ok (.iconst (-1), 1) := by decide +kernel
theorem dX2_serveBy_70 : decode cX2_serveBy 70 = .ok (.if_icmp .ne 6, 3) := by decide +kernel
theorem dX2_serveBy_73 : decode cX2_serveBy 73 = .ok (.ldc 75, 2) := by decide +kernel
theorem dX2_serveBy_75 : decode cX2_serveBy 75 = .ok (.ireturn, 1) := by decide +kernel
theorem dX2_serveBy_76 : decode cX2_serveBy 76 = .ok (.aload_n 0, 1) := by decide +kernel
theorem dX2_serveBy_77 : decode cX2_serveBy 77 = .ok (.iload 4, 2) := by decide +kernel
theorem dX2_serveBy_79 : decode cX2_serveBy 79 = .ok (.invokevirtual 159, 3) := by decide +kernel
theorem dX2_serveBy_82 : decode cX2_serveBy 82 = .ok (.aload_n 0, 1) := by decide +kernel
theorem dX2_serveBy_83 : decode cX2_serveBy 83 = .ok (.iload_n 3, 1) := by decide +kernel
theorem dX2_serveBy_84 : decode cX2_serveBy 84 = .ok (.invokevirtual 163, 3) := by decide +kernel
theorem dX2_serveBy_87 : decode cX2_serveBy 87 = .ok (.pop, 1) := by decide +kernel
theorem dX2_serveBy_88 : decode cX2_serveBy 88 = .ok (.aload_n 0, 1) := by decide +kernel
theorem dX2_serveBy_89 : decode cX2_serveBy 89 = .ok (.iload 5, 2) := by decide +kernel
theorem dX2_serveBy_91 : decode cX2_serveBy 91 = .ok (.iconst 4, 1) := by decide +kernel
theorem dX2_serveBy_92 : decode cX2_serveBy 92 = .ok (.idiv, 1) := by decide +kernel
theorem dX2_serveBy_93 : decode cX2_serveBy 93 = .ok (.invokevirtual 159, 3) := by decide +kernel
theorem dX2_serveBy_96 : decode cX2_serveBy 96 = .ok (.aload_n 0, 1) := by decide +kernel
theorem dX2_serveBy_97 : decode cX2_serveBy 97 = .ok (.iload 5, 2) := by decide +kernel
theorem dX2_serveBy_99 : decode cX2_serveBy 99 = .ok (.iconst 4, 1) := by decide +kernel
theorem dX2_serveBy_100 : decode cX2_serveBy 100 = .ok (.irem, 1) := by decide +kernel
theorem dX2_serveBy_101 : decode cX2_serveBy 101 = .ok (.invokevirtual 166, 3) := by decide +kernel
theorem dX2_serveBy_104 : decode cX2_serveBy 104 = .ok (.pop, 1) := by decide +kernel
theorem dX2_serveBy_105 : decode cX2_serveBy 105 = .ok (.aload_n 0, 1) := by decide +kernel
theorem dX2_serveBy_106 : decode cX2_serveBy 106 = .ok (.aload_n 0, 1) := by decide +kernel
theorem dX2_serveBy_107 : decode cX2_serveBy 107 = .ok (.getfield 12, 3) := by decide +kernel
theorem dX2_serveBy_110 : decode cX2_serveBy 110 = .ok (.iload_n 2, 1) := by decide +kernel
theorem dX2_serveBy_111 : decode cX2_serveBy 111 = .ok (.invokevirtual 169, 3) := by decide +kernel
theorem dX2_serveBy_114 : decode cX2_serveBy 114 = .ok (.invokevirtual 159, 3) := by decide +kernel
theorem dX2_serveBy_117 : decode cX2_serveBy 117 = .ok (.aload_n 0, 1) := by decide +kernel
theorem dX2_serveBy_118 : decode cX2_serveBy 118 = .ok (.aload_n 0, 1) := by decide +kernel
theorem dX2_serveBy_119 : decode cX2_serveBy 119 = .ok (.getfield 12, 3) := by decide +kernel
theorem dX2_serveBy_122 : decode cX2_serveBy 122 = .ok (.iload_n 2, 1) := by decide +kernel
theorem dX2_serveBy_123 : decode cX2_serveBy 123 = .ok (.invokevirtual 172, 3) := by decide +kernel
theorem dX2_serveBy_126 : decode cX2_serveBy 126 = .ok (.invokevirtual 175, 3) := by decide +kernel
theorem dX2_serveBy_129 : decode cX2_serveBy 129 = .ok (.pop, 1) := by decide +kernel
theorem dX2_serveBy_130 : decode cX2_serveBy 130 = .ok (.aload_n 0, 1) := by decide +kernel
theorem dX2_serveBy_131 : decode cX2_serveBy 131 = .ok (.iload 4, 2) := by decide +kernel
theorem dX2_serveBy_133 : decode cX2_serveBy 133 = .ok (.invokevirtual 159, 3) := by decide +kernel
theorem dX2_serveBy_136 : decode cX2_serveBy 136 = .ok (.aload_n 0, 1) := by decide +kernel
theorem dX2_serveBy_137 : decode cX2_serveBy 137 = .ok (.iload_n 3, 1) := by decide +kernel
theorem dX2_serveBy_138 : decode cX2_serveBy 138 = .ok (.invokevirtual 178, 3) := by decide +kernel
theorem dX2_serveBy_141 : decode cX2_serveBy 141 = .ok (.ireturn, 1) := by decide +kernel
theorem dX2_serveAllBy_0 : decode cX2_serveAllBy 0 = .ok (.iconst 0, 1) := by decide +kernel
theorem dX2_serveAllBy_1 : decode cX2_serveAllBy 1 = .ok (.istore_n 2, 1) := by decide +kernel
theorem dX2_serveAllBy_2 : decode cX2_serveAllBy 2 = .ok (.iload_n 2, 1) := by decide +kernel
theorem dX2_serveAllBy_3 : decode cX2_serveAllBy 3 = .ok (.bipush 12, 2) := by decide +kernel
theorem dX2_serveAllBy_5 : decode cX2_serveAllBy 5 = .ok (.if_icmp .ge 17, 3) := by decide +kernel
theorem dX2_serveAllBy_8 : decode cX2_serveAllBy 8 = .ok (.aload_n 0, 1) := by decide +kernel
theorem dX2_serveAllBy_9 : decode cX2_serveAllBy 9 = .ok (.iload_n 1, 1) := by decide +kernel
theorem dX2_serveAllBy_10 : decode cX2_serveAllBy 10 = .ok (.invokevirtual 181, 3) := by decide +kernel
theorem dX2_serveAllBy_13 : decode cX2_serveAllBy 13 = .ok (.ifCond .lt 9, 3) := by decide +kernel
theorem dX2_serveAllBy_16 : decode cX2_serveAllBy 16 = .ok (.iinc 2 1, 3) := by decide +kernel
theorem dX2_serveAllBy_19 : decode cX2_serveAllBy 19 = .ok (.goto (-17), 3) := by decide +kernel
theorem dX2_serveAllBy_22 : decode cX2_serveAllBy 22 = .ok (.iload_n 2, 1) := by decide +kernel
theorem dX2_serveAllBy_23 : decode cX2_serveAllBy 23 = .ok (.ireturn, 1) := by decide +kernel
theorem dX2_nextRequest_0 : decode cX2_nextRequest 0 = .ok (.iconst (-1), 1) := by decide +kernel
theorem dX2_nextRequest_1 : decode cX2_nextRequest 1 = .ok (.istore_n 2, 1) := by decide +kernel
theorem dX2_nextRequest_2 : decode cX2_nextRequest 2 = .ok (.iconst 0, 1) := by decide +kernel
theorem dX2_nextRequest_3 : decode cX2_nextRequest 3 = .ok (.istore_n 3, 1) := by decide +kernel
theorem dX2_nextRequest_4 : decode cX2_nextRequest 4 = .ok (.iconst 0, 1) := by decide +kernel
theorem dX2_nextRequest_5 : decode cX2_nextRequest 5 = .ok (.istore 4, 2) := by decide +kernel
theorem dX2_nextRequest_7 : decode cX2_nextRequest 7 = .ok (.iload 4, 2) := by decide +kernel
theorem dX2_nextRequest_9 : decode cX2_nextRequest 9 = .ok (.aload_n 0, 1) := by decide +kernel
theorem dX2_nextRequest_10 : decode cX2_nextRequest 10 = .ok (.getfield 21, 3) := by decide +kernel
theorem dX2_nextRequest_13 : decode cX2_nextRequest 13 = .ok (.getfield 184, 3) := by decide +kernel
theorem dX2_nextRequest_16 : decode cX2_nextRequest 16 = .ok (.if_icmp .ge 123, 3) := by decide +kernel
theorem dX2_nextRequest_19 : decode cX2_nextRequest 19 = .ok (.aload_n 0, 1) := by decide +kernel
theorem dX2_nextRequest_20 : decode cX2_nextRequest 20 = .ok (.iload 4, 2) := by decide +kernel
theorem dX2_nextRequest_22 : decode cX2_nextRequest 22 = .ok (.invokevirtual 150, 3) := by decide +kernel
theorem dX2_nextRequest_25 : decode cX2_nextRequest 25 = .ok (.istore 5, 2) := by decide +kernel
theorem dX2_nextRequest_27 : decode cX2_nextRequest 27 = .ok (.aload_n 0, 1) := by decide +kernel
theorem dX2_nextRequest_28 : decode cX2_nextRequest 28 = .ok (.getfield 12, 3) := by decide +kernel
theorem dX2_nextRequest_31 : decode cX2_nextRequest 31 = .ok (.iload 5, 2) := by decide +kernel
theorem dX2_nextRequest_33 : decode cX2_nextRequest 33 = .ok (.invokevirtual 83, 3) := by decide +kernel
theorem dX2_nextRequest_36 : decode cX2_nextRequest 36 = .ok (.ifCond .eq 97, 3) := by decide +kernel
theorem dX2_nextRequest_39 : decode cX2_nextRequest 39 = .ok (.aload_n 0, 1) := by decide +kernel
theorem dX2_nextRequest_40 : decode cX2_nextRequest 40 = .ok (.getfield 12, 3) := by decide +kernel
theorem dX2_nextRequest_43 : decode cX2_nextRequest 43 = .ok (.iload 5, 2) := by decide +kernel
theorem dX2_nextRequest_45 : decode cX2_nextRequest 45 = .ok (.invokevirtual 121, 3) := by decide +kernel
theorem dX2_nextRequest_48 : decode cX2_nextRequest 48 = .ok (.ifCond .eq 6, 3) := by decide +kernel
theorem dX2_nextRequest_51 : decode cX2_nextRequest 51 = .ok (.goto 82, 3) := by decide +kernel
theorem dX2_nextRequest_54 : decode cX2_nextRequest 54 = .ok (.iconst 0, 1) := by decide +kernel
theorem dX2_nextRequest_55 : decode cX2_nextRequest 55 = .ok (.istore 6, 2) := by decide +kernel
theorem dX2_nextRequest_57 : decode cX2_nextRequest 57 = .ok (.iload_n 1, 1) := by decide +kernel
theorem dX2_nextRequest_58 : decode cX2_nextRequest 58 = .ok (.iconst 1, 1) := by decide +kernel
theorem dX2_nextRequest_59 : decode cX2_nextRequest 59 = .ok (.if_icmp .ne 17, 3) := by decide +kernel
theorem dX2_nextRequest_62 : decode cX2_nextRequest 62 = .ok (.aload_n 0, 1) := by decide +kernel
theorem dX2_nextRequest_63 : decode cX2_nextRequest 63 = .ok (.getfield 21, 3) := by decide +kernel
theorem dX2_nextRequest_66 : decode cX2_nextRequest 66 = .ok (.iload 4, 2) := by decide +kernel
theorem dX2_nextRequest_68 : decode cX2_nextRequest 68 = .ok (.invokevirtual 187, 3) := by decide +kernel
theorem dX2_nextRequest_71 : decode cX2_nextRequest 71 = .ok (.istore 6, 2) := by decide +kernel
theorem dX2_nextRequest_73 : decode cX2_nextRequest 73 = .ok (.goto 43, 3) := by decide +kernel
theorem dX2_nextRequest_76 : decode cX2_nextRequest 76 = .ok (.iload_n 1, 1) := by decide +kernel
theorem dX2_nextRequest_77 : decode cX2_nextRequest 77 = .ok (.iconst 2, 1) := by decide +kernel
theorem dX2_nextRequest_78 : decode cX2_nextRequest 78 = .ok (.if_icmp .ne 25, 3) := by decide +kernel
theorem dX2_nextRequest_81 : decode cX2_nextRequest 81 = .ok (.aload_n 0, 1) := by decide +kernel
theorem dX2_nextRequest_82 : decode cX2_nextRequest 82 = .ok (.getfield 32, 3) := by decide +kernel
theorem dX2_nextRequest_85 : decode cX2_nextRequest 85 = .ok (.aload_n 0, 1) := by decide +kernel
theorem dX2_nextRequest_86 : decode cX2_nextRequest 86 = .ok (.getfield 12, 3) := by decide +kernel
theorem dX2_nextRequest_89 : decode cX2_nextRequest 89 = .ok (.iload 5, 2) := by decide +kernel
theorem dX2_nextRequest_91 : decode cX2_nextRequest 91 = .ok (.invokevirtual 169, 3) := by decide +kernel
theorem dX2_nextRequest_94 : decode cX2_nextRequest 94 = .ok (.invokestatic 190, 3) := by decide +kernel
theorem dX2_nextRequest_97 : decode cX2_nextRequest 97 = .ok (.ineg, 1) := by decide +kernel
theorem dX2_nextRequest_98 : decode cX2_nextRequest 98 = .ok (.istore 6, 2) := by decide +kernel
theorem dX2_nextRequest_100 : decode cX2_nextRequest 100 = .ok (.goto 16, 3) := by decide +kernel
theorem dX2_nextRequest_103 : decode cX2_nextRequest 103 = .ok (.iload_n 1, 1) := by decide +kernel
theorem dX2_nextRequest_104 : decode cX2_nextRequest 104 = .ok (.iconst 3, 1) := by decide +kernel
theorem dX2_nextRequest_105 : decode cX2_nextRequest 105 = .ok (.if_icmp .ne 11, 3) := by decide +kernel
theorem dX2_nextRequest_108 : decode cX2_nextRequest 108 = .ok (.aload_n 0, 1) := by decide +kernel
theorem dX2_nextRequest_109 : decode cX2_nextRequest 109 = .ok (.iload 5, 2) := by decide +kernel
theorem dX2_nextRequest_111 : decode cX2_nextRequest 111 = .ok (.invokevirtual 193, 3) := by decide +kernel
theorem dX2_nextRequest_114 : decode cX2_nextRequest 114 = .ok (.istore 6, 2) := by decide +kernel
theorem dX2_nextRequest_116 : decode cX2_nextRequest 116 = .ok (.iload_n 2, 1) := by decide +kernel
theorem dX2_nextRequest_117 : decode cX2_nextRequest 117 = .ok (.iconst (-1), 1) := by decide +kernel
theorem dX2_nextRequest_118 : decode cX2_nextRequest 118 = .ok (.if_icmp .eq 9, 3) := by decide +kernel
theorem dX2_nextRequest_121 : decode cX2_nextRequest 121 = .ok (.iload 6, 2) := by decide +kernel
theorem dX2_nextRequest_123 : decode cX2_nextRequest 123 = .ok (.iload_n 3, 1) := by decide +kernel
theorem dX2_nextRequest_124 : decode cX2_nextRequest 124 = .ok (.if_icmp .le 9, 3) := by decide +kernel
theorem dX2_nextRequest_127 : decode cX2_nextRequest 127 = .ok (.iload 4, 2) := by decide +kernel
theorem dX2_nextRequest_129 : decode cX2_nextRequest 129 = .ok (.istore_n 2, 1) := by decide +kernel
theorem dX2_nextRequest_130 : decode cX2_nextRequest 130 = .ok (.iload 6, 2) := by decide +kernel
theorem dX2_nextRequest_132 : decode cX2_nextRequest 132 = .ok (.istore_n 3, 1) := by decide +kernel
theorem dX2_nextRequest_133 : decode cX2_nextRequest 133 = .ok (.iinc 4 1, 3) := by decide +kernel
theorem dX2_nextRequest_136 : decode cX2_nextRequest 136 = .ok (.goto (-129), 3) := by decide +kernel
theorem dX2_nextRequest_139 : decode cX2_nextRequest 139 = .ok (.iload_n 2, 1) := by decide +kernel
theorem dX2_nextRequest_140 : decode cX2_nextRequest 140 = .ok (.ireturn, 1) := by decide +kernel
theorem dX2_holderFor_0 : decode cX2_holderFor 0 = .ok (.aload_n 0, 1) := by decide +kernel
theorem dX2_holderFor_1 : decode cX2_holderFor 1 = .ok (.getfield 12, 3) := by decide +kernel
theorem dX2_holderFor_4 : decode cX2_holderFor 4 = .ok (.aload_n 0, 1) := by decide +kernel
theorem dX2_holderFor_5 : decode cX2_holderFor 5 = .ok (.getfield 21, 3) := by decide +kernel
theorem dX2_holderFor_8 : decode cX2_holderFor 8 = .ok (.iload_n 1, 1) := by decide +kernel
theorem dX2_holderFor_9 : decode cX2_holderFor 9 = .ok (.invokevirtual 196, 3) := by decide +kernel
theorem dX2_holderFor_12 : decode cX2_holderFor 12 = .ok (.invokevirtual 131, 3) := by decide +kernel
theorem dX2_holderFor_15 : decode cX2_holderFor 15 = .ok (.ireturn, 1) := by decide +kernel
theorem dX2_driveFor_0 : decode cX2_driveFor 0 = .ok (.aload_n 0, 1) := by decide +kernel
theorem dX2_driveFor_1 : decode cX2_driveFor 1 = .ok (.iconst 0, 1) := by decide +kernel
theorem dX2_driveFor_2 : decode cX2_driveFor 2 = .ok (.invokevirtual 118, 3) := by decide +kernel
theorem dX2_driveFor_5 : decode cX2_driveFor 5 = .ok (.iconst (-1), 1) := by decide +kernel
theorem dX2_driveFor_6 : decode cX2_driveFor 6 = .ok (.if_icmp .ne 7, 3) := by decide +kernel
theorem dX2_driveFor_9 : decode cX2_driveFor 9 = .ok (.iconst 1, 1) := by decide +kernel
theorem dX2_driveFor_10 : decode cX2_driveFor 10 = .ok (.goto 4, 3) := by decide +kernel
theorem dX2_driveFor_13 : decode cX2_driveFor 13 = .ok (.iconst 0, 1) := by decide +kernel
theorem dX2_driveFor_14 : decode cX2_driveFor 14 = .ok (.istore_n 2, 1) := by decide +kernel
theorem dX2_driveFor_15 : decode cX2_driveFor 15 = .ok (.aload_n 0, 1) := by decide +kernel
theorem dX2_driveFor_16 : decode cX2_driveFor 16 = .ok (.iconst 1, 1) := by decide +kernel
theorem dX2_driveFor_17 : decode cX2_driveFor 17 = .ok (.invokevirtual 118, 3) := by decide +kernel
theorem dX2_driveFor_20 : decode cX2_driveFor 20 = .ok (.iconst (-1), 1) := by decide +kernel
theorem dX2_driveFor_21 : decode cX2_driveFor 21 = .ok (.if_icmp .ne 7, 3) := by decide +kernel
theorem dX2_driveFor_24 : decode cX2_driveFor 24 = .ok (.iconst 1, 1) := by decide +kernel
theorem dX2_driveFor_25 : decode cX2_driveFor 25 = .ok (.goto 4, 3) := by decide +kernel
theorem dX2_driveFor_28 : decode cX2_driveFor 28 = .ok (.iconst 0, 1) := by decide +kernel
theorem dX2_driveFor_29 : decode cX2_driveFor 29 = .ok (.istore_n 3, 1) := by decide +kernel
theorem dX2_driveFor_30 : decode cX2_driveFor 30 = .ok (.iload_n 2, 1) := by decide +kernel
theorem dX2_driveFor_31 : decode cX2_driveFor 31 = .ok (.ifCond .eq 44, 3) := by decide +kernel
theorem dX2_driveFor_34 : decode cX2_driveFor 34 = .ok (.iload_n 3, 1) := by decide +kernel
theorem dX2_driveFor_35 : decode cX2_driveFor 35 = .ok (.ifCond .eq 40, 3) := by decide +kernel
theorem dX2_driveFor_38 : decode cX2_driveFor 38 = .ok (.aload_n 0, 1) := by decide +kernel
theorem dX2_driveFor_39 : decode cX2_driveFor 39 = .ok (.getfield 12, 3) := by decide +kernel
theorem dX2_driveFor_42 : decode cX2_driveFor 42 = .ok (.iload_n 1, 1) := by decide +kernel
theorem dX2_driveFor_43 : decode cX2_driveFor 43 = .ok (.invokevirtual 169, 3) := by decide +kernel
theorem dX2_driveFor_46 : decode cX2_driveFor 46 = .ok (.istore 4, 2) := by decide +kernel
theorem dX2_driveFor_48 : decode cX2_driveFor 48 = .ok (.iload 4, 2) := by decide +kernel
theorem dX2_driveFor_50 : decode cX2_driveFor 50 = .ok (.iconst 0, 1) := by decide +kernel
theorem dX2_driveFor_51 : decode cX2_driveFor 51 = .ok (.invokestatic 115, 3) := by decide +kernel
theorem dX2_driveFor_54 : decode cX2_driveFor 54 = .ok (.invokestatic 190, 3) := by decide +kernel
theorem dX2_driveFor_57 : decode cX2_driveFor 57 = .ok (.iload 4, 2) := by decide +kernel
theorem dX2_driveFor_59 : decode cX2_driveFor 59 = .ok (.iconst 1, 1) := by decide +kernel
theorem dX2_driveFor_60 : decode cX2_driveFor 60 = .ok (.invokestatic 115, 3) := by decide +kernel
theorem dX2_driveFor_63 : decode cX2_driveFor 63 = .ok (.invokestatic 190, 3) := by decide +kernel
theorem dX2_driveFor_66 : decode cX2_driveFor 66 = .ok (.if_icmp .gt 7, 3) := by decide +kernel
theorem dX2_driveFor_69 : decode cX2_driveFor 69 = .ok (.iconst 0, 1) := by decide +kernel
theorem dX2_driveFor_70 : decode cX2_driveFor 70 = .ok (.goto 4, 3) := by decide +kernel
theorem dX2_driveFor_73 : decode cX2_driveFor 73 = .ok (.iconst 1, 1) := by decide +kernel
theorem dX2_driveFor_74 : decode cX2_driveFor 74 = .ok (.ireturn, 1) := by decide +kernel
theorem dX2_driveFor_75 : decode cX2_driveFor 75 = .ok (.iload_n 2, 1) := by decide +kernel
theorem dX2_driveFor_76 : decode cX2_driveFor 76 = .ok (.ifCond .ne 20, 3) := by decide +kernel
theorem dX2_driveFor_79 : decode cX2_driveFor 79 = .ok (.iload_n 3, 1) := by decide +kernel
theorem dX2_driveFor_80 : decode cX2_driveFor 80 = .ok (.ifCond .ne 16, 3) := by decide +kernel
theorem dX2_driveFor_83 : decode cX2_driveFor 83 = .ok (.aload_n 0, 1) := by decide +kernel
theorem dX2_driveFor_84 : decode cX2_driveFor 84 = .ok (.getfield 46, 3) := by decide +kernel
theorem dX2_driveFor_87 : decode cX2_driveFor 87 = .ok (.ifCond .ne 7, 3) := by decide +kernel
theorem dX2_driveFor_90 : decode cX2_driveFor 90 = .ok (.iconst 1, 1) := by decide +kernel
theorem dX2_driveFor_91 : decode cX2_driveFor 91 = .ok (.goto 4, 3) := by decide +kernel
theorem dX2_driveFor_94 : decode cX2_driveFor 94 = .ok (.iconst 0, 1) := by decide +kernel
theorem dX2_driveFor_95 : decode cX2_driveFor 95 = .ok (.ireturn, 1) := by decide +kernel
theorem dX2_driveFor_96 : decode cX2_driveFor 96 = .ok (.iload_n 2, 1) := by decide +kernel
theorem dX2_driveFor_97 : decode cX2_driveFor 97 = .ok (.ifCond .eq 7, 3) := by decide +kernel
theorem dX2_driveFor_100 : decode cX2_driveFor 100 = .ok (.iconst 0, 1) := by decide +kernel
theorem dX2_driveFor_101 : decode cX2_driveFor 101 = .ok (.goto 4, 3) := by decide +kernel
theorem dX2_driveFor_104 : decode cX2_driveFor 104 = .ok (.iconst 1, 1) := by decide +kernel
theorem dX2_driveFor_105 : decode cX2_driveFor 105 = .ok (.ireturn, 1) := by decide +kernel
theorem dX2_waitingFor_0 : decode cX2_waitingFor 0 = .ok (.iconst 0, 1) := by decide +kernel
theorem dX2_waitingFor_1 : decode cX2_waitingFor 1 = .ok (.istore_n 2, 1) := by decide +kernel
theorem dX2_waitingFor_2 : decode cX2_waitingFor 2 = .ok (.iconst 0, 1) := by decide +kernel
theorem dX2_waitingFor_3 : decode cX2_waitingFor 3 = .ok (.istore_n 3, 1) := by decide +kernel
theorem dX2_waitingFor_4 : decode cX2_waitingFor 4 = .ok (.iload_n 3, 1) := by decide +kernel
theorem dX2_waitingFor_5 : decode cX2_waitingFor 5 = .ok (.aload_n 0, 1) := by decide +kernel
theorem dX2_waitingFor_6 : decode cX2_waitingFor 6 = .ok (.getfield 21, 3) := by decide +kernel
theorem dX2_waitingFor_9 : decode cX2_waitingFor 9 = .ok (.getfield 184, 3) := by decide +kernel
theorem dX2_waitingFor_12 : decode cX2_waitingFor 12 = .ok (.if_icmp .ge 31, 3) := by decide +kernel
theorem dX2_waitingFor_15 : decode cX2_waitingFor 15 = .ok (.aload_n 0, 1) := by decide +kernel
theorem dX2_waitingFor_16 : decode cX2_waitingFor 16 = .ok (.getfield 12, 3) := by decide +kernel
theorem dX2_waitingFor_19 : decode cX2_waitingFor 19 = .ok (.aload_n 0, 1) := by decide +kernel
theorem dX2_waitingFor_20 : decode cX2_waitingFor 20 = .ok (.getfield 21, 3) := by decide +kernel
theorem dX2_waitingFor_23 : decode cX2_waitingFor 23 = .ok (.iload_n 3, 1) := by decide +kernel
theorem dX2_waitingFor_24 : decode cX2_waitingFor 24 = .ok (.invokevirtual 196, 3) := by decide +kernel
theorem dX2_waitingFor_27 : decode cX2_waitingFor 27 = .ok (.invokevirtual 131, 3) := by decide +kernel
theorem dX2_waitingFor_30 : decode cX2_waitingFor 30 = .ok (.iload_n 1, 1) := by decide +kernel
theorem dX2_waitingFor_31 : decode cX2_waitingFor 31 = .ok (.if_icmp .ne 6, 3) := by decide +kernel
theorem dX2_waitingFor_34 : decode cX2_waitingFor 34 = .ok (.iinc 2 1, 3) := by decide +kernel
theorem dX2_waitingFor_37 : decode cX2_waitingFor 37 = .ok (.iinc 3 1, 3) := by decide +kernel
theorem dX2_waitingFor_40 : decode cX2_waitingFor 40 = .ok (.goto (-36), 3) := by decide +kernel
theorem dX2_waitingFor_43 : decode cX2_waitingFor 43 = .ok (.iload_n 2, 1) := by decide +kernel
theorem dX2_waitingFor_44 : decode cX2_waitingFor 44 = .ok (.ireturn, 1) := by decide +kernel
theorem dX2_goTo_0 : decode cX2_goTo 0 = .ok (.iconst 0, 1) := by decide +kernel
theorem dX2_goTo_1 : decode cX2_goTo 1 = .ok (.istore_n 2, 1) := by decide +kernel
theorem dX2_goTo_2 : decode cX2_goTo 2 = .ok (.iload_n 2, 1) := by decide +kernel
theorem dX2_goTo_3 : decode cX2_goTo 3 = .ok (.bipush 8, 2) := by decide +kernel
theorem dX2_goTo_5 : decode cX2_goTo 5 = .ok (.if_icmp .ge 70, 3) := by decide +kernel
theorem dX2_goTo_8 : decode cX2_goTo 8 = .ok (.aload_n 0, 1) := by decide +kernel
theorem dX2_goTo_9 : decode cX2_goTo 9 = .ok (.getfield 32, 3) := by decide +kernel
theorem dX2_goTo_12 : decode cX2_goTo 12 = .ok (.iload_n 1, 1) := by decide +kernel
theorem dX2_goTo_13 : decode cX2_goTo 13 = .ok (.if_icmp .eq 62, 3) := by decide +kernel
theorem dX2_goTo_16 : decode cX2_goTo 16 = .ok (.aload_n 0, 1) := by decide +kernel
theorem dX2_goTo_17 : decode cX2_goTo 17 = .ok (.invokevirtual 199, 3) := by decide +kernel
theorem dX2_goTo_20 : decode cX2_goTo 20 = .ok (.invokestatic 112, 3) := by decide +kernel
theorem dX2_goTo_23 : decode cX2_goTo 23 = .ok (.istore_n 3, 1) := by decide +kernel
theorem dX2_goTo_24 : decode cX2_goTo 24 = .ok (.aload_n 0, 1) := by decide +kernel
theorem dX2_goTo_25 : decode cX2_goTo 25 = .ok (.getfield 32, 3) := by decide +kernel
theorem dX2_goTo_28 : decode cX2_goTo 28 = .ok (.iload_n 1, 1) := by decide +kernel
theorem dX2_goTo_29 : decode cX2_goTo 29 = .ok (.invokestatic 202, 3) := by decide +kernel
theorem dX2_goTo_32 : decode cX2_goTo 32 = .ok (.istore 4, 2) := by decide +kernel
theorem dX2_goTo_34 : decode cX2_goTo 34 = .ok (.bipush 8, 2) := by decide +kernel
theorem dX2_goTo_36 : decode cX2_goTo 36 = .ok (.iload 4, 2) := by decide +kernel
theorem dX2_goTo_38 : decode cX2_goTo 38 = .ok (.isub, 1) := by decide +kernel
theorem dX2_goTo_39 : decode cX2_goTo 39 = .ok (.istore 5, 2) := by decide +kernel
theorem dX2_goTo_41 : decode cX2_goTo 41 = .ok (.aload_n 0, 1) := by decide +kernel
theorem dX2_goTo_42 : decode cX2_goTo 42 = .ok (.iload 4, 2) := by decide +kernel
theorem dX2_goTo_44 : decode cX2_goTo 44 = .ok (.iload 5, 2) := by decide +kernel
theorem dX2_goTo_46 : decode cX2_goTo 46 = .ok (.if_icmp .gt 12, 3) := by decide +kernel
theorem dX2_goTo_49 : decode cX2_goTo 49 = .ok (.iload 4, 2) := by decide +kernel
theorem dX2_goTo_51 : decode cX2_goTo 51 = .ok (.iload_n 3, 1) := by decide +kernel
theorem dX2_goTo_52 : decode cX2_goTo 52 = .ok (.invokestatic 205, 3) := by decide +kernel
theorem dX2_goTo_55 : decode cX2_goTo 55 = .ok (.goto 10, 3) := by decide +kernel
theorem dX2_goTo_58 : decode cX2_goTo 58 = .ok (.iload 5, 2) := by decide +kernel
theorem dX2_goTo_60 : decode cX2_goTo 60 = .ok (.iload_n 3, 1) := by decide +kernel
theorem dX2_goTo_61 : decode cX2_goTo 61 = .ok (.invokestatic 205, 3) := by decide +kernel
theorem dX2_goTo_64 : decode cX2_goTo 64 = .ok (.ineg, 1) := by decide +kernel
theorem dX2_goTo_65 : decode cX2_goTo 65 = .ok (.invokevirtual 208, 3) := by decide +kernel
theorem dX2_goTo_68 : decode cX2_goTo 68 = .ok (.pop, 1) := by decide +kernel
theorem dX2_goTo_69 : decode cX2_goTo 69 = .ok (.iinc 2 1, 3) := by decide +kernel
theorem dX2_goTo_72 : decode cX2_goTo 72 = .ok (.goto (-70), 3) := by decide +kernel
theorem dX2_goTo_75 : decode cX2_goTo 75 = .ok (.return_, 1) := by decide +kernel
theorem dX2_inDrive_0 : decode cX2_inDrive 0 = .ok (.aload_n 0, 1) := by decide +kernel
theorem dX2_inDrive_1 : decode cX2_inDrive 1 = .ok (.getfield 12, 3) := by decide +kernel
theorem dX2_inDrive_4 : decode cX2_inDrive 4 = .ok (.bipush 35, 2) := by decide +kernel
theorem dX2_inDrive_6 : decode cX2_inDrive 6 = .ok (.iload_n 1, 1) := by decide +kernel
theorem dX2_inDrive_7 : decode cX2_inDrive 7 = .ok (.iadd, 1) := by decide +kernel
theorem dX2_inDrive_8 : decode cX2_inDrive 8 = .ok (.invokevirtual 71, 3) := by decide +kernel
theorem dX2_inDrive_11 : decode cX2_inDrive 11 = .ok (.ireturn, 1) := by decide +kernel
theorem dX2_topOfPile_0 : decode cX2_topOfPile 0 = .ok (.aload_n 0, 1) := by decide +kernel
theorem dX2_topOfPile_1 : decode cX2_topOfPile 1 = .ok (.getfield 40, 3) := by decide +kernel
theorem dX2_topOfPile_4 : decode cX2_topOfPile 4 = .ok (.ifCond .le 22, 3) := by decide +kernel
theorem dX2_topOfPile_7 : decode cX2_topOfPile 7 = .ok (.aload_n 0, 1) := by decide +kernel
theorem dX2_topOfPile_8 : decode cX2_topOfPile 8 = .ok (.getfield 12, 3) := by decide +kernel
theorem dX2_topOfPile_11 : decode cX2_topOfPile 11 = .ok (.bipush 32, 2) := by decide +kernel
theorem dX2_topOfPile_13 : decode cX2_topOfPile 13 = .ok (.aload_n 0, 1) := by decide +kernel
theorem dX2_topOfPile_14 : decode cX2_topOfPile 14 = .ok (.getfield 40, 3) := by decide +kernel
theorem dX2_topOfPile_17 : decode cX2_topOfPile 17 = .ok (.iadd, 1) := by decide +kernel
theorem dX2_topOfPile_18 : decode cX2_topOfPile 18 = .ok (.iconst 1, 1) := by decide +kernel
theorem dX2_topOfPile_19 : decode cX2_topOfPile 19 = .ok (.isub, 1) := by decide +kernel
theorem dX2_topOfPile_20 : decode cX2_topOfPile 20 = .ok (.invokevirtual 71, 3) := by decide +kernel
theorem dX2_topOfPile_23 : decode cX2_topOfPile 23 = .ok (.goto 4, 3) := by decide +kernel
theorem dX2_topOfPile_26 : decode cX2_topOfPile 26 = .ok (.iconst (-1), 1) := by decide +kernel
theorem dX2_topOfPile_27 : decode cX2_topOfPile 27 = .ok (.ireturn, 1) := by decide +kernel
theorem dX2_ontoPile_0 : decode cX2_ontoPile 0 = .ok (.iload_n 1, 1) := by decide +kernel
theorem dX2_ontoPile_1 : decode cX2_ontoPile 1 = .ok (.iconst (-1), 1) := by decide +kernel
theorem dX2_ontoPile_2 : decode cX2_ontoPile 2 = .ok (.if_icmp .ne 6, 3) := by decide +kernel
theorem dX2_ontoPile_5 : decode cX2_ontoPile 5 = .ok (.ldc 75, 2) := by decide +kernel
theorem dX2_ontoPile_7 : decode cX2_ontoPile 7 = .ok (.ireturn, 1) := by decide +kernel
theorem dX2_ontoPile_8 : decode cX2_ontoPile 8 = .ok (.aload_n 0, 1) := by decide +kernel
theorem dX2_ontoPile_9 : decode cX2_ontoPile 9 = .ok (.getfield 40, 3) := by decide +kernel
theorem dX2_ontoPile_12 : decode cX2_ontoPile 12 = .ok (.iconst 3, 1) := by decide +kernel
theorem dX2_ontoPile_13 : decode cX2_ontoPile 13 = .ok (.if_icmp .lt 6, 3) := by decide +kernel
theorem dX2_ontoPile_16 : decode cX2_ontoPile 16 = .ok (.ldc 137, 2) := by decide +kernel
theorem dX2_ontoPile_18 : decode cX2_ontoPile 18 = .ok (.ireturn, 1) := by decide +kernel
theorem dX2_ontoPile_19 : decode cX2_ontoPile 19 = .ok (.aload_n 0, 1) := by decide +kernel
theorem dX2_ontoPile_20 : decode cX2_ontoPile 20 = .ok (.getfield 12, 3) := by decide +kernel
theorem dX2_ontoPile_23 : decode cX2_ontoPile 23 = .ok (.iload_n 1, 1) := by decide +kernel
theorem dX2_ontoPile_24 : decode cX2_ontoPile 24 = .ok (.bipush 32, 2) := by decide +kernel
theorem dX2_ontoPile_26 : decode cX2_ontoPile 26 = .ok (.aload_n 0, 1) := by decide +kernel
theorem dX2_ontoPile_27 : decode cX2_ontoPile 27 = .ok (.getfield 40, 3) := by decide +kernel
theorem dX2_ontoPile_30 : decode cX2_ontoPile 30 = .ok (.iadd, 1) := by decide +kernel
theorem dX2_ontoPile_31 : decode cX2_ontoPile 31 = .ok (.invokevirtual 89, 3) := by decide +kernel
theorem dX2_ontoPile_34 : decode cX2_ontoPile 34 = .ok (.aload_n 0, 1) := by decide +kernel
theorem dX2_ontoPile_35 : decode cX2_ontoPile 35 = .ok (.dup, 1) := by decide +kernel
theorem dX2_ontoPile_36 : decode cX2_ontoPile 36 = .ok (.getfield 40, 3) := by decide +kernel
theorem dX2_ontoPile_39 : decode cX2_ontoPile 39 = .ok (.iconst 1, 1) := by decide +kernel
theorem dX2_ontoPile_40 : decode cX2_ontoPile 40 = .ok (.iadd, 1) := by decide +kernel
theorem dX2_ontoPile_41 : decode cX2_ontoPile 41 = .ok (.putfield 40, 3) := by decide +kernel
theorem dX2_ontoPile_44 : decode cX2_ontoPile 44 = .ok (.aload_n 0, 1) := by decide +kernel
theorem dX2_ontoPile_45 : decode cX2_ontoPile 45 = .ok (.dup, 1) := by decide +kernel
theorem dX2_ontoPile_46 : decode cX2_ontoPile 46 = .ok (.getfield 43, 3) := by decide +kernel
theorem dX2_ontoPile_49 : decode cX2_ontoPile 49 = .ok (.aload_n 0, 1) := by decide +kernel
theorem dX2_ontoPile_50 : decode cX2_ontoPile 50 = .ok (.getfield 12, 3) := by decide +kernel
theorem dX2_ontoPile_53 : decode cX2_ontoPile 53 = .ok (.iload_n 1, 1) := by decide +kernel
theorem dX2_ontoPile_54 : decode cX2_ontoPile 54 = .ok (.invokevirtual 211, 3) := by decide +kernel
theorem dX2_ontoPile_57 : decode cX2_ontoPile 57 = .ok (.iadd, 1) := by decide +kernel
theorem dX2_ontoPile_58 : decode cX2_ontoPile 58 = .ok (.putfield 43, 3) := by decide +kernel
theorem dX2_ontoPile_61 : decode cX2_ontoPile 61 = .ok (.aload_n 0, 1) := by decide +kernel
theorem dX2_ontoPile_62 : decode cX2_ontoPile 62 = .ok (.iconst 0, 1) := by decide +kernel
theorem dX2_ontoPile_63 : decode cX2_ontoPile 63 = .ok (.putfield 36, 3) := by decide +kernel
theorem dX2_ontoPile_66 : decode cX2_ontoPile 66 = .ok (.aload_n 0, 1) := by decide +kernel
theorem dX2_ontoPile_67 : decode cX2_ontoPile 67 = .ok (.dup, 1) := by decide +kernel
theorem dX2_ontoPile_68 : decode cX2_ontoPile 68 = .ok (.getfield 49, 3) := by decide +kernel
theorem dX2_ontoPile_71 : decode cX2_ontoPile 71 = .ok (.iload_n 2, 1) := by decide +kernel
theorem dX2_ontoPile_72 : decode cX2_ontoPile 72 = .ok (.iadd, 1) := by decide +kernel
theorem dX2_ontoPile_73 : decode cX2_ontoPile 73 = .ok (.putfield 49, 3) := by decide +kernel
theorem dX2_ontoPile_76 : decode cX2_ontoPile 76 = .ok (.iload_n 1, 1) := by decide +kernel
theorem dX2_ontoPile_77 : decode cX2_ontoPile 77 = .ok (.ireturn, 1) := by decide +kernel
theorem dX2_offPile_0 : decode cX2_offPile 0 = .ok (.aload_n 0, 1) := by decide +kernel
theorem dX2_offPile_1 : decode cX2_offPile 1 = .ok (.getfield 12, 3) := by decide +kernel
theorem dX2_offPile_4 : decode cX2_offPile 4 = .ok (.iload_n 1, 1) := by decide +kernel
theorem dX2_offPile_5 : decode cX2_offPile 5 = .ok (.iload_n 2, 1) := by decide +kernel
theorem dX2_offPile_6 : decode cX2_offPile 6 = .ok (.invokevirtual 89, 3) := by decide +kernel
theorem dX2_offPile_9 : decode cX2_offPile 9 = .ok (.aload_n 0, 1) := by decide +kernel
theorem dX2_offPile_10 : decode cX2_offPile 10 = .ok (.dup, 1) := by decide +kernel
theorem dX2_offPile_11 : decode cX2_offPile 11 = .ok (.getfield 40, 3) := by decide +kernel
theorem dX2_offPile_14 : decode cX2_offPile 14 = .ok (.iconst 1, 1) := by decide +kernel
theorem dX2_offPile_15 : decode cX2_offPile 15 = .ok (.isub, 1) := by decide +kernel
theorem dX2_offPile_16 : decode cX2_offPile 16 = .ok (.putfield 40, 3) := by decide +kernel
theorem dX2_offPile_19 : decode cX2_offPile 19 = .ok (.aload_n 0, 1) := by decide +kernel
theorem dX2_offPile_20 : decode cX2_offPile 20 = .ok (.dup, 1) := by decide +kernel
theorem dX2_offPile_21 : decode cX2_offPile 21 = .ok (.getfield 43, 3) := by decide +kernel
theorem dX2_offPile_24 : decode cX2_offPile 24 = .ok (.aload_n 0, 1) := by decide +kernel
theorem dX2_offPile_25 : decode cX2_offPile 25 = .ok (.getfield 12, 3) := by decide +kernel
theorem dX2_offPile_28 : decode cX2_offPile 28 = .ok (.iload_n 1, 1) := by decide +kernel
theorem dX2_offPile_29 : decode cX2_offPile 29 = .ok (.invokevirtual 211, 3) := by decide +kernel
theorem dX2_offPile_32 : decode cX2_offPile 32 = .ok (.isub, 1) := by decide +kernel
theorem dX2_offPile_33 : decode cX2_offPile 33 = .ok (.putfield 43, 3) := by decide +kernel
theorem dX2_offPile_36 : decode cX2_offPile 36 = .ok (.aload_n 0, 1) := by decide +kernel
theorem dX2_offPile_37 : decode cX2_offPile 37 = .ok (.iconst 0, 1) := by decide +kernel
theorem dX2_offPile_38 : decode cX2_offPile 38 = .ok (.putfield 36, 3) := by decide +kernel
theorem dX2_offPile_41 : decode cX2_offPile 41 = .ok (.aload_n 0, 1) := by decide +kernel
theorem dX2_offPile_42 : decode cX2_offPile 42 = .ok (.dup, 1) := by decide +kernel
theorem dX2_offPile_43 : decode cX2_offPile 43 = .ok (.getfield 49, 3) := by decide +kernel
theorem dX2_offPile_46 : decode cX2_offPile 46 = .ok (.iload_n 3, 1) := by decide +kernel
theorem dX2_offPile_47 : decode cX2_offPile 47 = .ok (.iadd, 1) := by decide +kernel
theorem dX2_offPile_48 : decode cX2_offPile 48 = .ok (.putfield 49, 3) := by decide +kernel
theorem dX2_offPile_51 : decode cX2_offPile 51 = .ok (.return_, 1) := by decide +kernel
theorem dX3_init_0 : decode cX3_init 0 = .ok (.aload_n 0, 1) := by decide +kernel
theorem dX3_init_1 : decode cX3_init 1 = .ok (.invokespecial 3, 3) := by decide +kernel
theorem dX3_init_4 : decode cX3_init 4 = .ok (.aload_n 0, 1) := by decide +kernel
theorem dX3_init_5 : decode cX3_init 5 = .ok (.bipush 60, 2) := by decide +kernel
theorem dX3_init_7 : decode cX3_init 7 = .ok (.newarray .char, 2) := by decide +kernel
theorem dX3_init_9 : decode cX3_init 9 = .ok (.putfield 9, 3) := by decide +kernel
theorem dX3_init_12 : decode cX3_init 12 = .ok (.return_, 1) := by decide +kernel
theorem dX3_append_0 : decode cX3_append 0 = .ok (.iload_n 1, 1) := by decide +kernel
theorem dX3_append_1 : decode cX3_append 1 = .ok (.bipush 32, 2) := by decide +kernel
theorem dX3_append_3 : decode cX3_append 3 = .ok (.bipush 126, 2) := by decide +kernel
theorem dX3_append_5 : decode cX3_append 5 = .ok (.invokestatic 15, 3) := by decide +kernel
theorem dX3_append_8 : decode cX3_append 8 = .ok (.ifCond .ne 6, 3) := by decide +kernel
theorem dX3_append_11 : decode cX3_append 11 = .ok (.ldc 19, 2) := by decide +kernel
theorem dX3_append_13 : decode cX3_append 13 = .ok (.ireturn, 1) := by decide +kernel
theorem dX3_append_14 : decode cX3_append 14 = .ok (.aload_n 0, 1) := by decide +kernel
theorem dX3_append_15 : decode cX3_append 15 = .ok (.getfield 20, 3) := by decide +kernel
theorem dX3_append_18 : decode cX3_append 18 = .ok (.ifCond .lt 15, 3) := by decide +kernel
theorem dX3_append_21 : decode cX3_append 21 = .ok (.aload_n 0, 1) := by decide +kernel
theorem dX3_append_22 : decode cX3_append 22 = .ok (.getfield 20, 3) := by decide +kernel
theorem dX3_append_25 : decode cX3_append 25 = .ok (.aload_n 0, 1) := by decide +kernel
theorem dX3_append_26 : decode cX3_append 26 = .ok (.getfield 9, 3) := by decide +kernel
theorem dX3_append_29 : decode cX3_append 29 = .ok (.arraylength, 1) := by decide +kernel
theorem dX3_append_30 : decode cX3_append 30 = .ok (.if_icmp .lt 6, 3) := by decide +kernel
theorem dX3_append_33 : decode cX3_append 33 = .ok (.ldc 24, 2) := by decide +kernel
theorem dX3_append_35 : decode cX3_append 35 = .ok (.ireturn, 1) := by decide +kernel
theorem dX3_append_36 : decode cX3_append 36 = .ok (.aload_n 0, 1) := by decide +kernel
theorem dX3_append_37 : decode cX3_append 37 = .ok (.getfield 9, 3) := by decide +kernel
theorem dX3_append_40 : decode cX3_append 40 = .ok (.aload_n 0, 1) := by decide +kernel
theorem dX3_append_41 : decode cX3_append 41 = .ok (.getfield 20, 3) := by decide +kernel
theorem dX3_append_44 : decode cX3_append 44 = .ok (.iload_n 1, 1) := by decide +kernel
theorem dX3_append_45 : decode cX3_append 45 = .ok (.i2c, 1) := by decide +kernel
theorem dX3_append_46 : decode cX3_append 46 = .ok (.castore, 1) := by decide +kernel
theorem dX3_append_47 : decode cX3_append 47 = .ok (.aload_n 0, 1) := by decide +kernel
theorem dX3_append_48 : decode cX3_append 48 = .ok (.dup, 1) := by decide +kernel
theorem dX3_append_49 : decode cX3_append 49 = .ok (.getfield 20, 3) := by decide +kernel
theorem dX3_append_52 : decode cX3_append 52 = .ok (.iconst 1, 1) := by decide +kernel
theorem dX3_append_53 : decode cX3_append 53 = .ok (.iadd, 1) := by decide +kernel
theorem dX3_append_54 : decode cX3_append 54 = .ok (.putfield 20, 3) := by decide +kernel
theorem dX3_append_57 : decode cX3_append 57 = .ok (.aload_n 0, 1) := by decide +kernel
theorem dX3_append_58 : decode cX3_append 58 = .ok (.getfield 20, 3) := by decide +kernel
theorem dX3_append_61 : decode cX3_append 61 = .ok (.ireturn, 1) := by decide +kernel
theorem dX3_empty_0 : decode cX3_empty 0 = .ok (.aload_n 0, 1) := by decide +kernel
theorem dX3_empty_1 : decode cX3_empty 1 = .ok (.getfield 20, 3) := by decide +kernel
theorem dX3_empty_4 : decode cX3_empty 4 = .ok (.istore_n 1, 1) := by decide +kernel
theorem dX3_empty_5 : decode cX3_empty 5 = .ok (.aload_n 0, 1) := by decide +kernel
theorem dX3_empty_6 : decode cX3_empty 6 = .ok (.iconst 0, 1) := by decide +kernel
theorem dX3_empty_7 : decode cX3_empty 7 = .ok (.putfield 20, 3) := by decide +kernel
theorem dX3_empty_10 : decode cX3_empty 10 = .ok (.iload_n 1, 1) := by decide +kernel
theorem dX3_empty_11 : decode cX3_empty 11 = .ok (.ireturn, 1) := by decide +kernel
theorem dX3_doAll_0 : decode cX3_doAll 0 = .ok (.iconst 0, 1) := by decide +kernel
theorem dX3_doAll_1 : decode cX3_doAll 1 = .ok (.istore_n 2, 1) := by decide +kernel
theorem dX3_doAll_2 : decode cX3_doAll 2 = .ok (.iconst 0, 1) := by decide +kernel
theorem dX3_doAll_3 : decode cX3_doAll 3 = .ok (.istore_n 3, 1) := by decide +kernel
theorem dX3_doAll_4 : decode cX3_doAll 4 = .ok (.aload_n 0, 1) := by decide +kernel
theorem dX3_doAll_5 : decode cX3_doAll 5 = .ok (.iconst 0, 1) := by decide +kernel
theorem dX3_doAll_6 : decode cX3_doAll 6 = .ok (.putfield 25, 3) := by decide +kernel
theorem dX3_doAll_9 : decode cX3_doAll 9 = .ok (.iload_n 2, 1) := by decide +kernel
theorem dX3_doAll_10 : decode cX3_doAll 10 = .ok (.bipush 60, 2) := by decide +kernel
theorem dX3_doAll_12 : decode cX3_doAll 12 = .ok (.if_icmp .ge 78, 3) := by decide +kernel
theorem dX3_doAll_15 : decode cX3_doAll 15 = .ok (.iload_n 3, 1) := by decide +kernel
theorem dX3_doAll_16 : decode cX3_doAll 16 = .ok (.aload_n 0, 1) := by decide +kernel
theorem dX3_doAll_17 : decode cX3_doAll 17 = .ok (.getfield 20, 3) := by decide +kernel
theorem dX3_doAll_20 : decode cX3_doAll 20 = .ok (.if_icmp .ge 70, 3) := by decide +kernel
theorem dX3_doAll_23 : decode cX3_doAll 23 = .ok (.aload_n 0, 1) := by decide +kernel
theorem dX3_doAll_24 : decode cX3_doAll 24 = .ok (.iload_n 3, 1) := by decide +kernel
theorem dX3_doAll_25 : decode cX3_doAll 25 = .ok (.invokevirtual 28, 3) := by decide +kernel
theorem dX3_doAll_28 : decode cX3_doAll 28 = .ok (.aload_n 0, 1) := by decide +kernel
theorem dX3_doAll_29 : decode cX3_doAll 29 = .ok (.aload_n 0, 1) := by decide +kernel
theorem dX3_doAll_30 : decode cX3_doAll 30 = .ok (.invokevirtual 32, 3) := by decide +kernel
theorem dX3_doAll_33 : decode cX3_doAll 33 = .ok (.putfield 25, 3) := by decide +kernel
theorem dX3_doAll_36 : decode cX3_doAll 36 = .ok (.aload_n 0, 1) := by decide +kernel
theorem dX3_doAll_37 : decode cX3_doAll 37 = .ok (.getfield 25, 3) := by decide +kernel
theorem dX3_doAll_40 : decode cX3_doAll 40 = .ok (.ifCond .ne 16, 3) := by decide +kernel
theorem dX3_doAll_43 : decode cX3_doAll 43 = .ok (.aload_n 0, 1) := by decide +kernel
theorem dX3_doAll_44 : decode cX3_doAll 44 = .ok (.aload_n 1, 1) := by decide +kernel
theorem dX3_doAll_45 : decode cX3_doAll 45 = .ok (.invokevirtual 36, 3) := by decide +kernel
theorem dX3_doAll_48 : decode cX3_doAll 48 = .ok (.ifCond .ge 8, 3) := by decide +kernel
theorem dX3_doAll_51 : decode cX3_doAll 51 = .ok (.aload_n 0, 1) := by decide +kernel
theorem dX3_doAll_52 : decode cX3_doAll 52 = .ok (.iconst 3, 1) := by decide +kernel
theorem dX3_doAll_53 : decode cX3_doAll 53 = .ok (.putfield 25, 3) := by decide +kernel
theorem dX3_doAll_56 : decode cX3_doAll 56 = .ok (.aload_n 0, 1) := by decide +kernel
theorem dX3_doAll_57 : decode cX3_doAll 57 = .ok (.getfield 25, 3) := by decide +kernel
theorem dX3_doAll_60 : decode cX3_doAll 60 = .ok (.ifCond .eq 19, 3) := by decide +kernel
theorem dX3_doAll_63 : decode cX3_doAll 63 = .ok (.aload_n 0, 1) := by decide +kernel
theorem dX3_doAll_64 : decode cX3_doAll 64 = .ok (.iload_n 3, 1) := by decide +kernel
theorem dX3_doAll_65 : decode cX3_doAll 65 = .ok (.putfield 40, 3) := by decide +kernel
theorem dX3_doAll_68 : decode cX3_doAll 68 = .ok (.aload_n 0, 1) := by decide +kernel
theorem dX3_doAll_69 : decode cX3_doAll 69 = .ok (.aload_n 0, 1) := by decide +kernel
theorem dX3_doAll_70 : decode cX3_doAll 70 = .ok (.getfield 43, 3) := by decide +kernel
theorem dX3_doAll_73 : decode cX3_doAll 73 = .ok (.putfield 46, 3) := by decide +kernel
theorem dX3_doAll_76 : decode cX3_doAll 76 = .ok (.ldc 49, 2) := by decide +kernel
theorem dX3_doAll_78 : decode cX3_doAll 78 = .ok (.ireturn, 1) := by decide +kernel
theorem dX3_doAll_79 : decode cX3_doAll 79 = .ok (.iinc 2 1, 3) := by decide +kernel
theorem dX3_doAll_82 : decode cX3_doAll 82 = .ok (.aload_n 0, 1) := by decide +kernel
theorem dX3_doAll_83 : decode cX3_doAll 83 = .ok (.getfield 50, 3) := by decide +kernel
theorem dX3_doAll_86 : decode cX3_doAll 86 = .ok (.istore_n 3, 1) := by decide +kernel
theorem dX3_doAll_87 : decode cX3_doAll 87 = .ok (.goto (-78), 3) := by decide +kernel
theorem dX3_doAll_90 : decode cX3_doAll 90 = .ok (.iload_n 2, 1) := by decide +kernel
theorem dX3_doAll_91 : decode cX3_doAll 91 = .ok (.ireturn, 1) := by decide +kernel
theorem dX3_aboutFault_0 : decode cX3_aboutFault 0 = .ok (.aload_n 0, 1) := by decide +kernel
theorem dX3_aboutFault_1 : decode cX3_aboutFault 1 = .ok (.getfield 25, 3) := by decide +kernel
theorem dX3_aboutFault_4 : decode cX3_aboutFault 4 = .ok (.ifCond .ne 6, 3) := by decide +kernel
theorem dX3_aboutFault_7 : decode cX3_aboutFault 7 = .ok (.ldc 53, 2) := by decide +kernel
theorem dX3_aboutFault_9 : decode cX3_aboutFault 9 = .ok (.ireturn, 1) := by decide +kernel
theorem dX3_aboutFault_10 : decode cX3_aboutFault 10 = .ok (.iload_n 1, 1) := by decide +kernel
theorem dX3_aboutFault_11 : decode cX3_aboutFault 11 = .ok (.lookupswitch 35 #[(0, 25), (1, 30)], 25) := by decide +kernel
theorem dX3_aboutFault_36 : decode cX3_aboutFault 36 = .ok (.aload_n 0, 1) := by decide +kernel
theorem dX3_aboutFault_37 : decode cX3_aboutFault 37 = .ok (.getfield 40, 3) := by decide +kernel
theorem dX3_aboutFault_40 : decode cX3_aboutFault 40 = .ok (.ireturn, 1) := by decide +kernel
theorem dX3_aboutFault_41 : decode cX3_aboutFault 41 = .ok (.aload_n 0, 1) := by decide +kernel
theorem dX3_aboutFault_42 : decode cX3_aboutFault 42 = .ok (.getfield 25, 3) := by decide +kernel
theorem dX3_aboutFault_45 : decode cX3_aboutFault 45 = .ok (.ireturn, 1) := by decide +kernel
theorem dX3_aboutFault_46 : decode cX3_aboutFault 46 = .ok (.aload_n 0, 1) := by decide +kernel
theorem dX3_aboutFault_47 : decode cX3_aboutFault 47 = .ok (.getfield 25, 3) := by decide +kernel
theorem dX3_aboutFault_50 : decode cX3_aboutFault 50 = .ok (.iconst 1, 1) := by decide +kernel
theorem dX3_aboutFault_51 : decode cX3_aboutFault 51 = .ok (.if_icmp .ne 10, 3) := by decide +kernel
theorem dX3_aboutFault_54 : decode cX3_aboutFault 54 = .ok (.aload_n 0, 1) := by decide +kernel
theorem dX3_aboutFault_55 : decode cX3_aboutFault 55 = .ok (.getfield 46, 3) := by decide +kernel
theorem dX3_aboutFault_58 : decode cX3_aboutFault 58 = .ok (.goto 5, 3) := by decide +kernel
theorem dX3_aboutFault_61 : decode cX3_aboutFault 61 = .ok (.ldc 53, 2) := by decide +kernel
theorem dX3_aboutFault_63 : decode cX3_aboutFault 63 = .ok (.ireturn, 1) := by decide +kernel
theorem dX3_reasonAgainstForm_0 : decode cX3_reasonAgainstForm 0 = .ok (.aload_n 0, 1) := by decide +kernel
theorem dX3_reasonAgainstForm_1 : decode cX3_reasonAgainstForm 1 = .ok (.getfield 43, 3) := by decide +kernel
theorem dX3_reasonAgainstForm_4 : decode cX3_reasonAgainstForm 4 = .ok (.iconst (-1), 1) := by decide +kernel
theorem dX3_reasonAgainstForm_5 : decode cX3_reasonAgainstForm 5 = .ok (.if_icmp .eq 5, 3) := by decide +kernel
theorem dX3_reasonAgainstForm_8 : decode cX3_reasonAgainstForm 8 = .ok (.iconst 1, 1) := by decide +kernel
theorem dX3_reasonAgainstForm_9 : decode cX3_reasonAgainstForm 9 = .ok (.ireturn, 1) := by decide +kernel
theorem dX3_reasonAgainstForm_10 : decode cX3_reasonAgainstForm 10 = .ok (.aload_n 0, 1) := by decide +kernel
theorem dX3_reasonAgainstForm_11 : decode cX3_reasonAgainstForm 11 = .ok (.getfield 54, 3) := by decide +kernel
theorem dX3_reasonAgainstForm_14 : decode cX3_reasonAgainstForm 14 = .ok (.aload_n 0, 1) := by decide +kernel
theorem dX3_reasonAgainstForm_15 : decode cX3_reasonAgainstForm 15 = .ok (.invokevirtual 57, 3) := by decide +kernel
theorem dX3_reasonAgainstForm_18 : decode cX3_reasonAgainstForm 18 = .ok (.aload_n 0, 1) := by decide +kernel
theorem dX3_reasonAgainstForm_19 : decode cX3_reasonAgainstForm 19 = .ok (.invokevirtual 60, 3) := by decide +kernel
theorem dX3_reasonAgainstForm_22 : decode cX3_reasonAgainstForm 22 = .ok (.invokestatic 15, 3) := by decide +kernel
theorem dX3_reasonAgainstForm_25 : decode cX3_reasonAgainstForm 25 = .ok (.ifCond .eq 7, 3) := by decide +kernel
