-- printed decode rows
theorem dX7_comes_14 : decode cX7_comes 14 = .ok (.aload_n 0, 1) := by decide +kernel
theorem dX7_comes_15 : decode cX7_comes 15 = .ok (.getfield 7, 3) := by decide +kernel
theorem dX7_comes_18 : decode cX7_comes 18 = .ok (.iconst 2, 1) := by decide +kernel
theorem dX7_comes_19 : decode cX7_comes 19 = .ok (.dup2, 1) := by decide +kernel
theorem dX7_comes_20 : decode cX7_comes 20 = .ok (.iaload, 1) := by decide +kernel
theorem dX7_comes_21 : decode cX7_comes 21 = .ok (.iconst 1, 1) := by decide +kernel
theorem dX7_comes_22 : decode cX7_comes 22 = .ok (.iadd, 1) := by decide +kernel
theorem dX7_comes_23 : decode cX7_comes 23 = .ok (.iastore, 1) := by decide +kernel
theorem dX7_comes_24 : decode cX7_comes 24 = .ok (.aload_n 0, 1) := by decide +kernel
theorem dX7_comes_25 : decode cX7_comes 25 = .ok (.getfield 7, 3) := by decide +kernel
theorem dX7_comes_28 : decode cX7_comes 28 = .ok (.bipush 6, 2) := by decide +kernel
theorem dX7_comes_30 : decode cX7_comes 30 = .ok (.iconst 0, 1) := by decide +kernel
theorem dX7_comes_31 : decode cX7_comes 31 = .ok (.iastore, 1) := by decide +kernel
theorem dX7_comes_32 : decode cX7_comes 32 = .ok (.aload_n 0, 1) := by decide +kernel
theorem dX7_comes_33 : decode cX7_comes 33 = .ok (.iload_n 1, 1) := by decide +kernel
theorem dX7_comes_34 : decode cX7_comes 34 = .ok (.iconst 1, 1) := by decide +kernel
theorem dX7_comes_35 : decode cX7_comes 35 = .ok (.invokevirtual 55, 3) := by decide +kernel
theorem dX7_comes_38 : decode cX7_comes 38 = .ok (.return_, 1) := by decide +kernel
theorem dX7_leaves_0 : decode cX7_leaves 0 = .ok (.aload_n 0, 1) := by decide +kernel
theorem dX7_leaves_1 : decode cX7_leaves 1 = .ok (.getfield 7, 3) := by decide +kernel
theorem dX7_leaves_4 : decode cX7_leaves 4 = .ok (.iconst 2, 1) := by decide +kernel
theorem dX7_leaves_5 : decode cX7_leaves 5 = .ok (.dup2, 1) := by decide +kernel
theorem dX7_leaves_6 : decode cX7_leaves 6 = .ok (.iaload, 1) := by decide +kernel
theorem dX7_leaves_7 : decode cX7_leaves 7 = .ok (.iconst 1, 1) := by decide +kernel
theorem dX7_leaves_8 : decode cX7_leaves 8 = .ok (.isub, 1) := by decide +kernel
theorem dX7_leaves_9 : decode cX7_leaves 9 = .ok (.iastore, 1) := by decide +kernel
theorem dX7_leaves_10 : decode cX7_leaves 10 = .ok (.aload_n 0, 1) := by decide +kernel
theorem dX7_leaves_11 : decode cX7_leaves 11 = .ok (.getfield 7, 3) := by decide +kernel
theorem dX7_leaves_14 : decode cX7_leaves 14 = .ok (.bipush 6, 2) := by decide +kernel
theorem dX7_leaves_16 : decode cX7_leaves 16 = .ok (.iconst 0, 1) := by decide +kernel
theorem dX7_leaves_17 : decode cX7_leaves 17 = .ok (.iastore, 1) := by decide +kernel
theorem dX7_leaves_18 : decode cX7_leaves 18 = .ok (.aload_n 0, 1) := by decide +kernel
theorem dX7_leaves_19 : decode cX7_leaves 19 = .ok (.getfield 7, 3) := by decide +kernel
theorem dX7_leaves_22 : decode cX7_leaves 22 = .ok (.iconst 3, 1) := by decide +kernel
theorem dX7_leaves_23 : decode cX7_leaves 23 = .ok (.aload_n 0, 1) := by decide +kernel
theorem dX7_leaves_24 : decode cX7_leaves 24 = .ok (.getfield 7, 3) := by decide +kernel
theorem dX7_leaves_27 : decode cX7_leaves 27 = .ok (.iconst 2, 1) := by decide +kernel
theorem dX7_leaves_28 : decode cX7_leaves 28 = .ok (.iaload, 1) := by decide +kernel
theorem dX7_leaves_29 : decode cX7_leaves 29 = .ok (.iadd, 1) := by decide +kernel
theorem dX7_leaves_30 : decode cX7_leaves 30 = .ok (.iaload, 1) := by decide +kernel
theorem dX7_leaves_31 : decode cX7_leaves 31 = .ok (.ireturn, 1) := by decide +kernel
theorem dX7_lifts_0 : decode cX7_lifts 0 = .ok (.iload_n 1, 1) := by decide +kernel
theorem dX7_lifts_1 : decode cX7_lifts 1 = .ok (.iconst 0, 1) := by decide +kernel
theorem dX7_lifts_2 : decode cX7_lifts 2 = .ok (.iconst 3, 1) := by decide +kernel
theorem dX7_lifts_3 : decode cX7_lifts 3 = .ok (.invokestatic 26, 3) := by decide +kernel
theorem dX7_lifts_6 : decode cX7_lifts 6 = .ok (.ifCond .ne 6, 3) := by decide +kernel
theorem dX7_lifts_9 : decode cX7_lifts 9 = .ok (.ldc 30, 2) := by decide +kernel
theorem dX7_lifts_11 : decode cX7_lifts 11 = .ok (.ireturn, 1) := by decide +kernel
theorem dX7_lifts_12 : decode cX7_lifts 12 = .ok (.bipush 16, 2) := by decide +kernel
theorem dX7_lifts_14 : decode cX7_lifts 14 = .ok (.iconst 4, 1) := by decide +kernel
theorem dX7_lifts_15 : decode cX7_lifts 15 = .ok (.aload_n 0, 1) := by decide +kernel
theorem dX7_lifts_16 : decode cX7_lifts 16 = .ok (.getfield 7, 3) := by decide +kernel
theorem dX7_lifts_19 : decode cX7_lifts 19 = .ok (.iconst 1, 1) := by decide +kernel
theorem dX7_lifts_20 : decode cX7_lifts 20 = .ok (.iaload, 1) := by decide +kernel
theorem dX7_lifts_21 : decode cX7_lifts 21 = .ok (.imul, 1) := by decide +kernel
theorem dX7_lifts_22 : decode cX7_lifts 22 = .ok (.iadd, 1) := by decide +kernel
theorem dX7_lifts_23 : decode cX7_lifts 23 = .ok (.iload_n 1, 1) := by decide +kernel
theorem dX7_lifts_24 : decode cX7_lifts 24 = .ok (.iadd, 1) := by decide +kernel
theorem dX7_lifts_25 : decode cX7_lifts 25 = .ok (.istore_n 2, 1) := by decide +kernel
theorem dX7_lifts_26 : decode cX7_lifts 26 = .ok (.aload_n 0, 1) := by decide +kernel
theorem dX7_lifts_27 : decode cX7_lifts 27 = .ok (.getfield 7, 3) := by decide +kernel
theorem dX7_lifts_30 : decode cX7_lifts 30 = .ok (.iload_n 2, 1) := by decide +kernel
theorem dX7_lifts_31 : decode cX7_lifts 31 = .ok (.iaload, 1) := by decide +kernel
theorem dX7_lifts_32 : decode cX7_lifts 32 = .ok (.istore_n 3, 1) := by decide +kernel
theorem dX7_lifts_33 : decode cX7_lifts 33 = .ok (.iload_n 3, 1) := by decide +kernel
theorem dX7_lifts_34 : decode cX7_lifts 34 = .ok (.ifCond .ge 6, 3) := by decide +kernel
theorem dX7_lifts_37 : decode cX7_lifts 37 = .ok (.ldc 35, 2) := by decide +kernel
theorem dX7_lifts_39 : decode cX7_lifts 39 = .ok (.ireturn, 1) := by decide +kernel
theorem dX7_lifts_40 : decode cX7_lifts 40 = .ok (.aload_n 0, 1) := by decide +kernel
theorem dX7_lifts_41 : decode cX7_lifts 41 = .ok (.getfield 7, 3) := by decide +kernel
theorem dX7_lifts_44 : decode cX7_lifts 44 = .ok (.iconst 2, 1) := by decide +kernel
theorem dX7_lifts_45 : decode cX7_lifts 45 = .ok (.iaload, 1) := by decide +kernel
theorem dX7_lifts_46 : decode cX7_lifts 46 = .ok (.iconst 3, 1) := by decide +kernel
theorem dX7_lifts_47 : decode cX7_lifts 47 = .ok (.if_icmp .ne 6, 3) := by decide +kernel
theorem dX7_lifts_50 : decode cX7_lifts 50 = .ok (.ldc 36, 2) := by decide +kernel
theorem dX7_lifts_52 : decode cX7_lifts 52 = .ok (.ireturn, 1) := by decide +kernel
theorem dX7_lifts_53 : decode cX7_lifts 53 = .ok (.aload_n 0, 1) := by decide +kernel
theorem dX7_lifts_54 : decode cX7_lifts 54 = .ok (.getfield 7, 3) := by decide +kernel
theorem dX7_lifts_57 : decode cX7_lifts 57 = .ok (.iload_n 2, 1) := by decide +kernel
theorem dX7_lifts_58 : decode cX7_lifts 58 = .ok (.iconst (-1), 1) := by decide +kernel
theorem dX7_lifts_59 : decode cX7_lifts 59 = .ok (.iastore, 1) := by decide +kernel
theorem dX7_lifts_60 : decode cX7_lifts 60 = .ok (.aload_n 0, 1) := by decide +kernel
theorem dX7_lifts_61 : decode cX7_lifts 61 = .ok (.iload_n 3, 1) := by decide +kernel
theorem dX7_lifts_62 : decode cX7_lifts 62 = .ok (.invokevirtual 66, 3) := by decide +kernel
theorem dX7_lifts_65 : decode cX7_lifts 65 = .ok (.aload_n 0, 1) := by decide +kernel
theorem dX7_lifts_66 : decode cX7_lifts 66 = .ok (.getfield 7, 3) := by decide +kernel
theorem dX7_lifts_69 : decode cX7_lifts 69 = .ok (.iconst 0, 1) := by decide +kernel
theorem dX7_lifts_70 : decode cX7_lifts 70 = .ok (.dup2, 1) := by decide +kernel
theorem dX7_lifts_71 : decode cX7_lifts 71 = .ok (.iaload, 1) := by decide +kernel
theorem dX7_lifts_72 : decode cX7_lifts 72 = .ok (.iconst 1, 1) := by decide +kernel
theorem dX7_lifts_73 : decode cX7_lifts 73 = .ok (.iadd, 1) := by decide +kernel
theorem dX7_lifts_74 : decode cX7_lifts 74 = .ok (.iastore, 1) := by decide +kernel
theorem dX7_lifts_75 : decode cX7_lifts 75 = .ok (.iload_n 3, 1) := by decide +kernel
theorem dX7_lifts_76 : decode cX7_lifts 76 = .ok (.ireturn, 1) := by decide +kernel
theorem dX7_lift_0 : decode cX7_lift 0 = .ok (.aload_n 0, 1) := by decide +kernel
theorem dX7_lift_1 : decode cX7_lift 1 = .ok (.invokevirtual 37, 3) := by decide +kernel
theorem dX7_lift_4 : decode cX7_lift 4 = .ok (.aload_n 0, 1) := by decide +kernel
theorem dX7_lift_5 : decode cX7_lift 5 = .ok (.aload_n 0, 1) := by decide +kernel
theorem dX7_lift_6 : decode cX7_lift 6 = .ok (.iload_n 1, 1) := by decide +kernel
theorem dX7_lift_7 : decode cX7_lift 7 = .ok (.invokevirtual 70, 3) := by decide +kernel
theorem dX7_lift_10 : decode cX7_lift 10 = .ok (.invokevirtual 40, 3) := by decide +kernel
theorem dX7_lift_13 : decode cX7_lift 13 = .ok (.ireturn, 1) := by decide +kernel
theorem dX7_lays_0 : decode cX7_lays 0 = .ok (.iload_n 1, 1) := by decide +kernel
theorem dX7_lays_1 : decode cX7_lays 1 = .ok (.iconst 0, 1) := by decide +kernel
theorem dX7_lays_2 : decode cX7_lays 2 = .ok (.iconst 3, 1) := by decide +kernel
theorem dX7_lays_3 : decode cX7_lays 3 = .ok (.invokestatic 26, 3) := by decide +kernel
theorem dX7_lays_6 : decode cX7_lays 6 = .ok (.ifCond .ne 6, 3) := by decide +kernel
theorem dX7_lays_9 : decode cX7_lays 9 = .ok (.ldc 30, 2) := by decide +kernel
theorem dX7_lays_11 : decode cX7_lays 11 = .ok (.ireturn, 1) := by decide +kernel
theorem dX7_lays_12 : decode cX7_lays 12 = .ok (.bipush 16, 2) := by decide +kernel
theorem dX7_lays_14 : decode cX7_lays 14 = .ok (.iconst 4, 1) := by decide +kernel
theorem dX7_lays_15 : decode cX7_lays 15 = .ok (.aload_n 0, 1) := by decide +kernel
theorem dX7_lays_16 : decode cX7_lays 16 = .ok (.getfield 7, 3) := by decide +kernel
theorem dX7_lays_19 : decode cX7_lays 19 = .ok (.iconst 1, 1) := by decide +kernel
theorem dX7_lays_20 : decode cX7_lays 20 = .ok (.iaload, 1) := by decide +kernel
theorem dX7_lays_21 : decode cX7_lays 21 = .ok (.imul, 1) := by decide +kernel
theorem dX7_lays_22 : decode cX7_lays 22 = .ok (.iadd, 1) := by decide +kernel
theorem dX7_lays_23 : decode cX7_lays 23 = .ok (.iload_n 1, 1) := by decide +kernel
theorem dX7_lays_24 : decode cX7_lays 24 = .ok (.iadd, 1) := by decide +kernel
theorem dX7_lays_25 : decode cX7_lays 25 = .ok (.istore_n 2, 1) := by decide +kernel
theorem dX7_lays_26 : decode cX7_lays 26 = .ok (.aload_n 0, 1) := by decide +kernel
theorem dX7_lays_27 : decode cX7_lays 27 = .ok (.getfield 7, 3) := by decide +kernel
theorem dX7_lays_30 : decode cX7_lays 30 = .ok (.iconst 2, 1) := by decide +kernel
theorem dX7_lays_31 : decode cX7_lays 31 = .ok (.iaload, 1) := by decide +kernel
theorem dX7_lays_32 : decode cX7_lays 32 = .ok (.ifCond .eq 12, 3) := by decide +kernel
theorem dX7_lays_35 : decode cX7_lays 35 = .ok (.aload_n 0, 1) := by decide +kernel
theorem dX7_lays_36 : decode cX7_lays 36 = .ok (.getfield 7, 3) := by decide +kernel
theorem dX7_lays_39 : decode cX7_lays 39 = .ok (.iload_n 2, 1) := by decide +kernel
theorem dX7_lays_40 : decode cX7_lays 40 = .ok (.iaload, 1) := by decide +kernel
theorem dX7_lays_41 : decode cX7_lays 41 = .ok (.ifCond .lt 6, 3) := by decide +kernel
theorem dX7_lays_44 : decode cX7_lays 44 = .ok (.ldc 35, 2) := by decide +kernel
theorem dX7_lays_46 : decode cX7_lays 46 = .ok (.ireturn, 1) := by decide +kernel
theorem dX7_lays_47 : decode cX7_lays 47 = .ok (.aload_n 0, 1) := by decide +kernel
theorem dX7_lays_48 : decode cX7_lays 48 = .ok (.invokevirtual 73, 3) := by decide +kernel
theorem dX7_lays_51 : decode cX7_lays 51 = .ok (.istore_n 3, 1) := by decide +kernel
theorem dX7_lays_52 : decode cX7_lays 52 = .ok (.aload_n 0, 1) := by decide +kernel
theorem dX7_lays_53 : decode cX7_lays 53 = .ok (.getfield 7, 3) := by decide +kernel
theorem dX7_lays_56 : decode cX7_lays 56 = .ok (.iload_n 2, 1) := by decide +kernel
theorem dX7_lays_57 : decode cX7_lays 57 = .ok (.iload_n 3, 1) := by decide +kernel
theorem dX7_lays_58 : decode cX7_lays 58 = .ok (.iastore, 1) := by decide +kernel
theorem dX7_lays_59 : decode cX7_lays 59 = .ok (.aload_n 0, 1) := by decide +kernel
theorem dX7_lays_60 : decode cX7_lays 60 = .ok (.iload_n 3, 1) := by decide +kernel
theorem dX7_lays_61 : decode cX7_lays 61 = .ok (.iconst 0, 1) := by decide +kernel
theorem dX7_lays_62 : decode cX7_lays 62 = .ok (.invokevirtual 55, 3) := by decide +kernel
theorem dX7_lays_65 : decode cX7_lays 65 = .ok (.aload_n 0, 1) := by decide +kernel
theorem dX7_lays_66 : decode cX7_lays 66 = .ok (.getfield 7, 3) := by decide +kernel
theorem dX7_lays_69 : decode cX7_lays 69 = .ok (.iconst 0, 1) := by decide +kernel
theorem dX7_lays_70 : decode cX7_lays 70 = .ok (.dup2, 1) := by decide +kernel
theorem dX7_lays_71 : decode cX7_lays 71 = .ok (.iaload, 1) := by decide +kernel
theorem dX7_lays_72 : decode cX7_lays 72 = .ok (.iconst 1, 1) := by decide +kernel
theorem dX7_lays_73 : decode cX7_lays 73 = .ok (.iadd, 1) := by decide +kernel
theorem dX7_lays_74 : decode cX7_lays 74 = .ok (.iastore, 1) := by decide +kernel
theorem dX7_lays_75 : decode cX7_lays 75 = .ok (.iload_n 3, 1) := by decide +kernel
theorem dX7_lays_76 : decode cX7_lays 76 = .ok (.ireturn, 1) := by decide +kernel
theorem dX7_lay_0 : decode cX7_lay 0 = .ok (.aload_n 0, 1) := by decide +kernel
theorem dX7_lay_1 : decode cX7_lay 1 = .ok (.invokevirtual 37, 3) := by decide +kernel
theorem dX7_lay_4 : decode cX7_lay 4 = .ok (.aload_n 0, 1) := by decide +kernel
theorem dX7_lay_5 : decode cX7_lay 5 = .ok (.aload_n 0, 1) := by decide +kernel
theorem dX7_lay_6 : decode cX7_lay 6 = .ok (.iload_n 1, 1) := by decide +kernel
theorem dX7_lay_7 : decode cX7_lay 7 = .ok (.invokevirtual 76, 3) := by decide +kernel
theorem dX7_lay_10 : decode cX7_lay 10 = .ok (.invokevirtual 40, 3) := by decide +kernel
theorem dX7_lay_13 : decode cX7_lay 13 = .ok (.ireturn, 1) := by decide +kernel
theorem dX7_weighs_0 : decode cX7_weighs 0 = .ok (.aload_n 0, 1) := by decide +kernel
theorem dX7_weighs_1 : decode cX7_weighs 1 = .ok (.getfield 7, 3) := by decide +kernel
theorem dX7_weighs_4 : decode cX7_weighs 4 = .ok (.bipush 6, 2) := by decide +kernel
theorem dX7_weighs_6 : decode cX7_weighs 6 = .ok (.iconst 1, 1) := by decide +kernel
theorem dX7_weighs_7 : decode cX7_weighs 7 = .ok (.iastore, 1) := by decide +kernel
theorem dX7_weighs_8 : decode cX7_weighs 8 = .ok (.aload_n 0, 1) := by decide +kernel
theorem dX7_weighs_9 : decode cX7_weighs 9 = .ok (.getfield 7, 3) := by decide +kernel
theorem dX7_weighs_12 : decode cX7_weighs 12 = .ok (.iconst 0, 1) := by decide +kernel
theorem dX7_weighs_13 : decode cX7_weighs 13 = .ok (.dup2, 1) := by decide +kernel
theorem dX7_weighs_14 : decode cX7_weighs 14 = .ok (.iaload, 1) := by decide +kernel
theorem dX7_weighs_15 : decode cX7_weighs 15 = .ok (.iconst 1, 1) := by decide +kernel
theorem dX7_weighs_16 : decode cX7_weighs 16 = .ok (.iadd, 1) := by decide +kernel
theorem dX7_weighs_17 : decode cX7_weighs 17 = .ok (.iastore, 1) := by decide +kernel
theorem dX7_weighs_18 : decode cX7_weighs 18 = .ok (.aload_n 0, 1) := by decide +kernel
theorem dX7_weighs_19 : decode cX7_weighs 19 = .ok (.invokevirtual 63, 3) := by decide +kernel
theorem dX7_weighs_22 : decode cX7_weighs 22 = .ok (.ireturn, 1) := by decide +kernel
theorem dX7_weigh_0 : decode cX7_weigh 0 = .ok (.aload_n 0, 1) := by decide +kernel
theorem dX7_weigh_1 : decode cX7_weigh 1 = .ok (.invokevirtual 37, 3) := by decide +kernel
theorem dX7_weigh_4 : decode cX7_weigh 4 = .ok (.aload_n 0, 1) := by decide +kernel
theorem dX7_weigh_5 : decode cX7_weigh 5 = .ok (.aload_n 0, 1) := by decide +kernel
theorem dX7_weigh_6 : decode cX7_weigh 6 = .ok (.invokevirtual 79, 3) := by decide +kernel
theorem dX7_weigh_9 : decode cX7_weigh 9 = .ok (.invokevirtual 40, 3) := by decide +kernel
theorem dX7_weigh_12 : decode cX7_weigh 12 = .ok (.ireturn, 1) := by decide +kernel
theorem dX7_turns_0 : decode cX7_turns 0 = .ok (.iload_n 1, 1) := by decide +kernel
theorem dX7_turns_1 : decode cX7_turns 1 = .ok (.ifCond .ge 8, 3) := by decide +kernel
theorem dX7_turns_4 : decode cX7_turns 4 = .ok (.iload_n 1, 1) := by decide +kernel
theorem dX7_turns_5 : decode cX7_turns 5 = .ok (.ineg, 1) := by decide +kernel
theorem dX7_turns_6 : decode cX7_turns 6 = .ok (.goto 4, 3) := by decide +kernel
theorem dX7_turns_9 : decode cX7_turns 9 = .ok (.iload_n 1, 1) := by decide +kernel
theorem dX7_turns_10 : decode cX7_turns 10 = .ok (.istore_n 2, 1) := by decide +kernel
theorem dX7_turns_11 : decode cX7_turns 11 = .ok (.iload_n 1, 1) := by decide +kernel
theorem dX7_turns_12 : decode cX7_turns 12 = .ok (.bipush (-4), 2) := by decide +kernel
theorem dX7_turns_14 : decode cX7_turns 14 = .ok (.iconst 4, 1) := by decide +kernel
theorem dX7_turns_15 : decode cX7_turns 15 = .ok (.invokestatic 26, 3) := by decide +kernel
theorem dX7_turns_18 : decode cX7_turns 18 = .ok (.ifCond .eq 7, 3) := by decide +kernel
theorem dX7_turns_21 : decode cX7_turns 21 = .ok (.iload_n 1, 1) := by decide +kernel
theorem dX7_turns_22 : decode cX7_turns 22 = .ok (.ifCond .ne 6, 3) := by decide +kernel
theorem dX7_turns_25 : decode cX7_turns 25 = .ok (.ldc 30, 2) := by decide +kernel
theorem dX7_turns_27 : decode cX7_turns 27 = .ok (.ireturn, 1) := by decide +kernel
theorem dX7_turns_28 : decode cX7_turns 28 = .ok (.aload_n 0, 1) := by decide +kernel
theorem dX7_turns_29 : decode cX7_turns 29 = .ok (.getfield 7, 3) := by decide +kernel
theorem dX7_turns_32 : decode cX7_turns 32 = .ok (.bipush 6, 2) := by decide +kernel
theorem dX7_turns_34 : decode cX7_turns 34 = .ok (.iaload, 1) := by decide +kernel
theorem dX7_turns_35 : decode cX7_turns 35 = .ok (.ifCond .eq 11, 3) := by decide +kernel
theorem dX7_turns_38 : decode cX7_turns 38 = .ok (.iload_n 2, 1) := by decide +kernel
theorem dX7_turns_39 : decode cX7_turns 39 = .ok (.aload_n 0, 1) := by decide +kernel
theorem dX7_turns_40 : decode cX7_turns 40 = .ok (.invokevirtual 82, 3) := by decide +kernel
theorem dX7_turns_43 : decode cX7_turns 43 = .ok (.if_icmp .le 6, 3) := by decide +kernel
theorem dX7_turns_46 : decode cX7_turns 46 = .ok (.ldc 35, 2) := by decide +kernel
theorem dX7_turns_48 : decode cX7_turns 48 = .ok (.ireturn, 1) := by decide +kernel
theorem dX7_turns_49 : decode cX7_turns 49 = .ok (.aload_n 0, 1) := by decide +kernel
theorem dX7_turns_50 : decode cX7_turns 50 = .ok (.getfield 7, 3) := by decide +kernel
theorem dX7_turns_53 : decode cX7_turns 53 = .ok (.iconst 1, 1) := by decide +kernel
theorem dX7_turns_54 : decode cX7_turns 54 = .ok (.aload_n 0, 1) := by decide +kernel
theorem dX7_turns_55 : decode cX7_turns 55 = .ok (.getfield 7, 3) := by decide +kernel
theorem dX7_turns_58 : decode cX7_turns 58 = .ok (.iconst 1, 1) := by decide +kernel
theorem dX7_turns_59 : decode cX7_turns 59 = .ok (.iaload, 1) := by decide +kernel
theorem dX7_turns_60 : decode cX7_turns 60 = .ok (.iload_n 1, 1) := by decide +kernel
theorem dX7_turns_61 : decode cX7_turns 61 = .ok (.iadd, 1) := by decide +kernel
theorem dX7_turns_62 : decode cX7_turns 62 = .ok (.bipush 8, 2) := by decide +kernel
theorem dX7_turns_64 : decode cX7_turns 64 = .ok (.iadd, 1) := by decide +kernel
theorem dX7_turns_65 : decode cX7_turns 65 = .ok (.bipush 8, 2) := by decide +kernel
theorem dX7_turns_67 : decode cX7_turns 67 = .ok (.irem, 1) := by decide +kernel
theorem dX7_turns_68 : decode cX7_turns 68 = .ok (.iastore, 1) := by decide +kernel
theorem dX7_turns_69 : decode cX7_turns 69 = .ok (.aload_n 0, 1) := by decide +kernel
theorem dX7_turns_70 : decode cX7_turns 70 = .ok (.getfield 7, 3) := by decide +kernel
theorem dX7_turns_73 : decode cX7_turns 73 = .ok (.bipush 6, 2) := by decide +kernel
theorem dX7_turns_75 : decode cX7_turns 75 = .ok (.iconst 0, 1) := by decide +kernel
theorem dX7_turns_76 : decode cX7_turns 76 = .ok (.iastore, 1) := by decide +kernel
theorem dX7_turns_77 : decode cX7_turns 77 = .ok (.aload_n 0, 1) := by decide +kernel
theorem dX7_turns_78 : decode cX7_turns 78 = .ok (.getfield 7, 3) := by decide +kernel
theorem dX7_turns_81 : decode cX7_turns 81 = .ok (.iconst 0, 1) := by decide +kernel
theorem dX7_turns_82 : decode cX7_turns 82 = .ok (.dup2, 1) := by decide +kernel
theorem dX7_turns_83 : decode cX7_turns 83 = .ok (.iaload, 1) := by decide +kernel
theorem dX7_turns_84 : decode cX7_turns 84 = .ok (.iload_n 2, 1) := by decide +kernel
theorem dX7_turns_85 : decode cX7_turns 85 = .ok (.iconst 1, 1) := by decide +kernel
theorem dX7_turns_86 : decode cX7_turns 86 = .ok (.aload_n 0, 1) := by decide +kernel
theorem dX7_turns_87 : decode cX7_turns 87 = .ok (.invokevirtual 63, 3) := by decide +kernel
theorem dX7_turns_90 : decode cX7_turns 90 = .ok (.bipush 10, 2) := by decide +kernel
theorem dX7_turns_92 : decode cX7_turns 92 = .ok (.idiv, 1) := by decide +kernel
theorem dX7_turns_93 : decode cX7_turns 93 = .ok (.iadd, 1) := by decide +kernel
theorem dX7_turns_94 : decode cX7_turns 94 = .ok (.imul, 1) := by decide +kernel
theorem dX7_turns_95 : decode cX7_turns 95 = .ok (.iadd, 1) := by decide +kernel
theorem dX7_turns_96 : decode cX7_turns 96 = .ok (.iastore, 1) := by decide +kernel
theorem dX7_turns_97 : decode cX7_turns 97 = .ok (.aload_n 0, 1) := by decide +kernel
theorem dX7_turns_98 : decode cX7_turns 98 = .ok (.getfield 7, 3) := by decide +kernel
theorem dX7_turns_101 : decode cX7_turns 101 = .ok (.bipush 10, 2) := by decide +kernel
theorem dX7_turns_103 : decode cX7_turns 103 = .ok (.dup2, 1) := by decide +kernel
theorem dX7_turns_104 : decode cX7_turns 104 = .ok (.iaload, 1) := by decide +kernel
theorem dX7_turns_105 : decode cX7_turns 105 = .ok (.iconst 1, 1) := by decide +kernel
theorem dX7_turns_106 : decode cX7_turns 106 = .ok (.iadd, 1) := by decide +kernel
theorem dX7_turns_107 : decode cX7_turns 107 = .ok (.iastore, 1) := by decide +kernel
theorem dX7_turns_108 : decode cX7_turns 108 = .ok (.aload_n 0, 1) := by decide +kernel
theorem dX7_turns_109 : decode cX7_turns 109 = .ok (.getfield 7, 3) := by decide +kernel
theorem dX7_turns_112 : decode cX7_turns 112 = .ok (.iconst 1, 1) := by decide +kernel
theorem dX7_turns_113 : decode cX7_turns 113 = .ok (.iaload, 1) := by decide +kernel
theorem dX7_turns_114 : decode cX7_turns 114 = .ok (.ireturn, 1) := by decide +kernel
theorem dX7_turn_0 : decode cX7_turn 0 = .ok (.aload_n 0, 1) := by decide +kernel
theorem dX7_turn_1 : decode cX7_turn 1 = .ok (.invokevirtual 37, 3) := by decide +kernel
theorem dX7_turn_4 : decode cX7_turn 4 = .ok (.aload_n 0, 1) := by decide +kernel
theorem dX7_turn_5 : decode cX7_turn 5 = .ok (.aload_n 0, 1) := by decide +kernel
theorem dX7_turn_6 : decode cX7_turn 6 = .ok (.iload_n 1, 1) := by decide +kernel
theorem dX7_turn_7 : decode cX7_turn 7 = .ok (.invokevirtual 85, 3) := by decide +kernel
theorem dX7_turn_10 : decode cX7_turn 10 = .ok (.invokevirtual 40, 3) := by decide +kernel
theorem dX7_turn_13 : decode cX7_turn 13 = .ok (.ireturn, 1) := by decide +kernel
theorem dX7_wallOf_0 : decode cX7_wallOf 0 = .ok (.iconst 2, 1) := by decide +kernel
theorem dX7_wallOf_1 : decode cX7_wallOf 1 = .ok (.iconst 4, 1) := by decide +kernel
theorem dX7_wallOf_2 : decode cX7_wallOf 2 = .ok (.iload_n 0, 1) := by decide +kernel
theorem dX7_wallOf_3 : decode cX7_wallOf 3 = .ok (.imul, 1) := by decide +kernel
theorem dX7_wallOf_4 : decode cX7_wallOf 4 = .ok (.iadd, 1) := by decide +kernel
theorem dX7_wallOf_5 : decode cX7_wallOf 5 = .ok (.ireturn, 1) := by decide +kernel
theorem dX7_serves_0 : decode cX7_serves 0 = .ok (.iconst 0, 1) := by decide +kernel
theorem dX7_serves_1 : decode cX7_serves 1 = .ok (.istore_n 2, 1) := by decide +kernel
theorem dX7_serves_2 : decode cX7_serves 2 = .ok (.iconst 0, 1) := by decide +kernel
theorem dX7_serves_3 : decode cX7_serves 3 = .ok (.istore_n 3, 1) := by decide +kernel
theorem dX7_serves_4 : decode cX7_serves 4 = .ok (.iconst 0, 1) := by decide +kernel
theorem dX7_serves_5 : decode cX7_serves 5 = .ok (.istore 4, 2) := by decide +kernel
theorem dX7_serves_7 : decode cX7_serves 7 = .ok (.iload 4, 2) := by decide +kernel
theorem dX7_serves_9 : decode cX7_serves 9 = .ok (.aload_n 0, 1) := by decide +kernel
theorem dX7_serves_10 : decode cX7_serves 10 = .ok (.getfield 7, 3) := by decide +kernel
theorem dX7_serves_13 : decode cX7_serves 13 = .ok (.bipush 8, 2) := by decide +kernel
theorem dX7_serves_15 : decode cX7_serves 15 = .ok (.iaload, 1) := by decide +kernel
theorem dX7_serves_16 : decode cX7_serves 16 = .ok (.if_icmp .ge 114, 3) := by decide +kernel
theorem dX7_serves_19 : decode cX7_serves 19 = .ok (.aload_n 0, 1) := by decide +kernel
theorem dX7_serves_20 : decode cX7_serves 20 = .ok (.getfield 7, 3) := by decide +kernel
theorem dX7_serves_23 : decode cX7_serves 23 = .ok (.sipush 168, 3) := by decide +kernel
theorem dX7_serves_26 : decode cX7_serves 26 = .ok (.aload_n 0, 1) := by decide +kernel
theorem dX7_serves_27 : decode cX7_serves 27 = .ok (.getfield 7, 3) := by decide +kernel
theorem dX7_serves_30 : decode cX7_serves 30 = .ok (.sipush 228, 3) := by decide +kernel
theorem dX7_serves_33 : decode cX7_serves 33 = .ok (.iconst 3, 1) := by decide +kernel
theorem dX7_serves_34 : decode cX7_serves 34 = .ok (.iload 4, 2) := by decide +kernel
theorem dX7_serves_36 : decode cX7_serves 36 = .ok (.imul, 1) := by decide +kernel
theorem dX7_serves_37 : decode cX7_serves 37 = .ok (.iadd, 1) := by decide +kernel
theorem dX7_serves_38 : decode cX7_serves 38 = .ok (.iaload, 1) := by decide +kernel
theorem dX7_serves_39 : decode cX7_serves 39 = .ok (.iadd, 1) := by decide +kernel
theorem dX7_serves_40 : decode cX7_serves 40 = .ok (.iaload, 1) := by decide +kernel
theorem dX7_serves_41 : decode cX7_serves 41 = .ok (.iload_n 1, 1) := by decide +kernel
theorem dX7_serves_42 : decode cX7_serves 42 = .ok (.if_icmp .ne 7, 3) := by decide +kernel
theorem dX7_serves_45 : decode cX7_serves 45 = .ok (.iconst 1, 1) := by decide +kernel
theorem dX7_serves_46 : decode cX7_serves 46 = .ok (.goto 4, 3) := by decide +kernel
theorem dX7_serves_49 : decode cX7_serves 49 = .ok (.iconst 0, 1) := by decide +kernel
theorem dX7_serves_50 : decode cX7_serves 50 = .ok (.istore 5, 2) := by decide +kernel
theorem dX7_serves_52 : decode cX7_serves 52 = .ok (.iconst 0, 1) := by decide +kernel
theorem dX7_serves_53 : decode cX7_serves 53 = .ok (.istore 6, 2) := by decide +kernel
theorem dX7_serves_55 : decode cX7_serves 55 = .ok (.iload 6, 2) := by decide +kernel
theorem dX7_serves_57 : decode cX7_serves 57 = .ok (.iconst 3, 1) := by decide +kernel
theorem dX7_serves_58 : decode cX7_serves 58 = .ok (.if_icmp .ge 40, 3) := by decide +kernel
theorem dX7_serves_61 : decode cX7_serves 61 = .ok (.aload_n 0, 1) := by decide +kernel
theorem dX7_serves_62 : decode cX7_serves 62 = .ok (.getfield 7, 3) := by decide +kernel
theorem dX7_serves_65 : decode cX7_serves 65 = .ok (.sipush 228, 3) := by decide +kernel
theorem dX7_serves_68 : decode cX7_serves 68 = .ok (.iconst 3, 1) := by decide +kernel
theorem dX7_serves_69 : decode cX7_serves 69 = .ok (.iload_n 3, 1) := by decide +kernel
theorem dX7_serves_70 : decode cX7_serves 70 = .ok (.imul, 1) := by decide +kernel
theorem dX7_serves_71 : decode cX7_serves 71 = .ok (.iadd, 1) := by decide +kernel
theorem dX7_serves_72 : decode cX7_serves 72 = .ok (.iload 6, 2) := by decide +kernel
theorem dX7_serves_74 : decode cX7_serves 74 = .ok (.iadd, 1) := by decide +kernel
theorem dX7_serves_75 : decode cX7_serves 75 = .ok (.aload_n 0, 1) := by decide +kernel
theorem dX7_serves_76 : decode cX7_serves 76 = .ok (.getfield 7, 3) := by decide +kernel
theorem dX7_serves_79 : decode cX7_serves 79 = .ok (.sipush 228, 3) := by decide +kernel
theorem dX7_serves_82 : decode cX7_serves 82 = .ok (.iconst 3, 1) := by decide +kernel
theorem dX7_serves_83 : decode cX7_serves 83 = .ok (.iload 4, 2) := by decide +kernel
theorem dX7_serves_85 : decode cX7_serves 85 = .ok (.imul, 1) := by decide +kernel
theorem dX7_serves_86 : decode cX7_serves 86 = .ok (.iadd, 1) := by decide +kernel
theorem dX7_serves_87 : decode cX7_serves 87 = .ok (.iload 6, 2) := by decide +kernel
theorem dX7_serves_89 : decode cX7_serves 89 = .ok (.iadd, 1) := by decide +kernel
theorem dX7_serves_90 : decode cX7_serves 90 = .ok (.iaload, 1) := by decide +kernel
theorem dX7_serves_91 : decode cX7_serves 91 = .ok (.iastore, 1) := by decide +kernel
theorem dX7_serves_92 : decode cX7_serves 92 = .ok (.iinc 6 1, 3) := by decide +kernel
theorem dX7_serves_95 : decode cX7_serves 95 = .ok (.goto (-40), 3) := by decide +kernel
theorem dX7_serves_98 : decode cX7_serves 98 = .ok (.iload_n 2, 1) := by decide +kernel
theorem dX7_serves_99 : decode cX7_serves 99 = .ok (.iload 5, 2) := by decide +kernel
theorem dX7_serves_101 : decode cX7_serves 101 = .ok (.ifCond .eq 7, 3) := by decide +kernel
theorem dX7_serves_104 : decode cX7_serves 104 = .ok (.iconst 1, 1) := by decide +kernel
theorem dX7_serves_105 : decode cX7_serves 105 = .ok (.goto 4, 3) := by decide +kernel
theorem dX7_serves_108 : decode cX7_serves 108 = .ok (.iconst 0, 1) := by decide +kernel
theorem dX7_serves_109 : decode cX7_serves 109 = .ok (.iadd, 1) := by decide +kernel
theorem dX7_serves_110 : decode cX7_serves 110 = .ok (.istore_n 2, 1) := by decide +kernel
theorem dX7_serves_111 : decode cX7_serves 111 = .ok (.iload_n 3, 1) := by decide +kernel
theorem dX7_serves_112 : decode cX7_serves 112 = .ok (.iload 5, 2) := by decide +kernel
theorem dX7_serves_114 : decode cX7_serves 114 = .ok (.ifCond .eq 7, 3) := by decide +kernel
theorem dX7_serves_117 : decode cX7_serves 117 = .ok (.iconst 0, 1) := by decide +kernel
theorem dX7_serves_118 : decode cX7_serves 118 = .ok (.goto 4, 3) := by decide +kernel
theorem dX7_serves_121 : decode cX7_serves 121 = .ok (.iconst 1, 1) := by decide +kernel
theorem dX7_serves_122 : decode cX7_serves 122 = .ok (.iadd, 1) := by decide +kernel
theorem dX7_serves_123 : decode cX7_serves 123 = .ok (.istore_n 3, 1) := by decide +kernel
theorem dX7_serves_124 : decode cX7_serves 124 = .ok (.iinc 4 1, 3) := by decide +kernel
theorem dX7_serves_127 : decode cX7_serves 127 = .ok (.goto (-120), 3) := by decide +kernel
theorem dX7_serves_130 : decode cX7_serves 130 = .ok (.aload_n 0, 1) := by decide +kernel
theorem dX7_serves_131 : decode cX7_serves 131 = .ok (.getfield 7, 3) := by decide +kernel
theorem dX7_serves_134 : decode cX7_serves 134 = .ok (.bipush 8, 2) := by decide +kernel
theorem dX7_serves_136 : decode cX7_serves 136 = .ok (.iload_n 3, 1) := by decide +kernel
theorem dX7_serves_137 : decode cX7_serves 137 = .ok (.iastore, 1) := by decide +kernel
theorem dX7_serves_138 : decode cX7_serves 138 = .ok (.aload_n 0, 1) := by decide +kernel
theorem dX7_serves_139 : decode cX7_serves 139 = .ok (.getfield 7, 3) := by decide +kernel
theorem dX7_serves_142 : decode cX7_serves 142 = .ok (.bipush 9, 2) := by decide +kernel
theorem dX7_serves_144 : decode cX7_serves 144 = .ok (.dup2, 1) := by decide +kernel
theorem dX7_serves_145 : decode cX7_serves 145 = .ok (.iaload, 1) := by decide +kernel
theorem dX7_serves_146 : decode cX7_serves 146 = .ok (.iload_n 2, 1) := by decide +kernel
theorem dX7_serves_147 : decode cX7_serves 147 = .ok (.iadd, 1) := by decide +kernel
theorem dX7_serves_148 : decode cX7_serves 148 = .ok (.iastore, 1) := by decide +kernel
theorem dX7_serves_149 : decode cX7_serves 149 = .ok (.aload_n 0, 1) := by decide +kernel
theorem dX7_serves_150 : decode cX7_serves 150 = .ok (.getfield 7, 3) := by decide +kernel
theorem dX7_serves_153 : decode cX7_serves 153 = .ok (.bipush 48, 2) := by decide +kernel
theorem dX7_serves_155 : decode cX7_serves 155 = .ok (.iconst 4, 1) := by decide +kernel
theorem dX7_serves_156 : decode cX7_serves 156 = .ok (.iload_n 1, 1) := by decide +kernel
theorem dX7_serves_157 : decode cX7_serves 157 = .ok (.imul, 1) := by decide +kernel
theorem dX7_serves_158 : decode cX7_serves 158 = .ok (.iadd, 1) := by decide +kernel
theorem dX7_serves_159 : decode cX7_serves 159 = .ok (.iconst 3, 1) := by decide +kernel
theorem dX7_serves_160 : decode cX7_serves 160 = .ok (.iadd, 1) := by decide +kernel
theorem dX7_serves_161 : decode cX7_serves 161 = .ok (.dup2, 1) := by decide +kernel
theorem dX7_serves_162 : decode cX7_serves 162 = .ok (.iaload, 1) := by decide +kernel
theorem dX7_serves_163 : decode cX7_serves 163 = .ok (.iload_n 2, 1) := by decide +kernel
theorem dX7_serves_164 : decode cX7_serves 164 = .ok (.iadd, 1) := by decide +kernel
theorem dX7_serves_165 : decode cX7_serves 165 = .ok (.iastore, 1) := by decide +kernel
theorem dX7_serves_166 : decode cX7_serves 166 = .ok (.iload_n 2, 1) := by decide +kernel
theorem dX7_serves_167 : decode cX7_serves 167 = .ok (.ireturn, 1) := by decide +kernel
theorem dX7_mounts_0 : decode cX7_mounts 0 = .ok (.iload_n 1, 1) := by decide +kernel
theorem dX7_mounts_1 : decode cX7_mounts 1 = .ok (.iconst 0, 1) := by decide +kernel
theorem dX7_mounts_2 : decode cX7_mounts 2 = .ok (.iconst 1, 1) := by decide +kernel
theorem dX7_mounts_3 : decode cX7_mounts 3 = .ok (.invokestatic 26, 3) := by decide +kernel
theorem dX7_mounts_6 : decode cX7_mounts 6 = .ok (.ifCond .ne 6, 3) := by decide +kernel
theorem dX7_mounts_9 : decode cX7_mounts 9 = .ok (.ldc 30, 2) := by decide +kernel
theorem dX7_mounts_11 : decode cX7_mounts 11 = .ok (.ireturn, 1) := by decide +kernel
theorem dX7_mounts_12 : decode cX7_mounts 12 = .ok (.aload_n 0, 1) := by decide +kernel
theorem dX7_mounts_13 : decode cX7_mounts 13 = .ok (.getfield 7, 3) := by decide +kernel
theorem dX7_mounts_16 : decode cX7_mounts 16 = .ok (.iconst 1, 1) := by decide +kernel
theorem dX7_mounts_17 : decode cX7_mounts 17 = .ok (.iaload, 1) := by decide +kernel
theorem dX7_mounts_18 : decode cX7_mounts 18 = .ok (.iload_n 1, 1) := by decide +kernel
theorem dX7_mounts_19 : decode cX7_mounts 19 = .ok (.invokestatic 88, 3) := by decide +kernel
theorem dX7_mounts_22 : decode cX7_mounts 22 = .ok (.if_icmp .ne 49, 3) := by decide +kernel
theorem dX7_mounts_25 : decode cX7_mounts 25 = .ok (.aload_n 0, 1) := by decide +kernel
theorem dX7_mounts_26 : decode cX7_mounts 26 = .ok (.getfield 7, 3) := by decide +kernel
theorem dX7_mounts_29 : decode cX7_mounts 29 = .ok (.iconst 2, 1) := by decide +kernel
theorem dX7_mounts_30 : decode cX7_mounts 30 = .ok (.iaload, 1) := by decide +kernel
theorem dX7_mounts_31 : decode cX7_mounts 31 = .ok (.ifCond .eq 40, 3) := by decide +kernel
theorem dX7_mounts_34 : decode cX7_mounts 34 = .ok (.aload_n 0, 1) := by decide +kernel
theorem dX7_mounts_35 : decode cX7_mounts 35 = .ok (.getfield 7, 3) := by decide +kernel
theorem dX7_mounts_38 : decode cX7_mounts 38 = .ok (.bipush 11, 2) := by decide +kernel
theorem dX7_mounts_40 : decode cX7_mounts 40 = .ok (.iload_n 1, 1) := by decide +kernel
theorem dX7_mounts_41 : decode cX7_mounts 41 = .ok (.iadd, 1) := by decide +kernel
theorem dX7_mounts_42 : decode cX7_mounts 42 = .ok (.iaload, 1) := by decide +kernel
theorem dX7_mounts_43 : decode cX7_mounts 43 = .ok (.ifCond .ge 28, 3) := by decide +kernel
theorem dX7_mounts_46 : decode cX7_mounts 46 = .ok (.aload_n 0, 1) := by decide +kernel
theorem dX7_mounts_47 : decode cX7_mounts 47 = .ok (.aload_n 0, 1) := by decide +kernel
theorem dX7_mounts_48 : decode cX7_mounts 48 = .ok (.getfield 7, 3) := by decide +kernel
theorem dX7_mounts_51 : decode cX7_mounts 51 = .ok (.iconst 3, 1) := by decide +kernel
theorem dX7_mounts_52 : decode cX7_mounts 52 = .ok (.aload_n 0, 1) := by decide +kernel
theorem dX7_mounts_53 : decode cX7_mounts 53 = .ok (.getfield 7, 3) := by decide +kernel
theorem dX7_mounts_56 : decode cX7_mounts 56 = .ok (.iconst 2, 1) := by decide +kernel
theorem dX7_mounts_57 : decode cX7_mounts 57 = .ok (.iaload, 1) := by decide +kernel
theorem dX7_mounts_58 : decode cX7_mounts 58 = .ok (.iadd, 1) := by decide +kernel
theorem dX7_mounts_59 : decode cX7_mounts 59 = .ok (.iconst 1, 1) := by decide +kernel
theorem dX7_mounts_60 : decode cX7_mounts 60 = .ok (.isub, 1) := by decide +kernel
theorem dX7_mounts_61 : decode cX7_mounts 61 = .ok (.iaload, 1) := by decide +kernel
theorem dX7_mounts_62 : decode cX7_mounts 62 = .ok (.iconst 1, 1) := by decide +kernel
theorem dX7_mounts_63 : decode cX7_mounts 63 = .ok (.invokevirtual 44, 3) := by decide +kernel
theorem dX7_mounts_66 : decode cX7_mounts 66 = .ok (.bipush 6, 2) := by decide +kernel
theorem dX7_mounts_68 : decode cX7_mounts 68 = .ok (.if_icmp .lt 6, 3) := by decide +kernel
theorem dX7_mounts_71 : decode cX7_mounts 71 = .ok (.ldc 35, 2) := by decide +kernel
theorem dX7_mounts_73 : decode cX7_mounts 73 = .ok (.ireturn, 1) := by decide +kernel
theorem dX7_mounts_74 : decode cX7_mounts 74 = .ok (.aload_n 0, 1) := by decide +kernel
theorem dX7_mounts_75 : decode cX7_mounts 75 = .ok (.invokevirtual 73, 3) := by decide +kernel
theorem dX7_mounts_78 : decode cX7_mounts 78 = .ok (.istore_n 2, 1) := by decide +kernel
theorem dX7_mounts_79 : decode cX7_mounts 79 = .ok (.aload_n 0, 1) := by decide +kernel
theorem dX7_mounts_80 : decode cX7_mounts 80 = .ok (.getfield 7, 3) := by decide +kernel
theorem dX7_mounts_83 : decode cX7_mounts 83 = .ok (.bipush 11, 2) := by decide +kernel
theorem dX7_mounts_85 : decode cX7_mounts 85 = .ok (.iload_n 1, 1) := by decide +kernel
theorem dX7_mounts_86 : decode cX7_mounts 86 = .ok (.iadd, 1) := by decide +kernel
theorem dX7_mounts_87 : decode cX7_mounts 87 = .ok (.iload_n 2, 1) := by decide +kernel
theorem dX7_mounts_88 : decode cX7_mounts 88 = .ok (.iastore, 1) := by decide +kernel
theorem dX7_mounts_89 : decode cX7_mounts 89 = .ok (.aload_n 0, 1) := by decide +kernel
theorem dX7_mounts_90 : decode cX7_mounts 90 = .ok (.getfield 7, 3) := by decide +kernel
theorem dX7_mounts_93 : decode cX7_mounts 93 = .ok (.bipush 13, 2) := by decide +kernel
theorem dX7_mounts_95 : decode cX7_mounts 95 = .ok (.iload_n 1, 1) := by decide +kernel
theorem dX7_mounts_96 : decode cX7_mounts 96 = .ok (.iadd, 1) := by decide +kernel
theorem dX7_mounts_97 : decode cX7_mounts 97 = .ok (.aload_n 0, 1) := by decide +kernel
theorem dX7_mounts_98 : decode cX7_mounts 98 = .ok (.getfield 7, 3) := by decide +kernel
theorem dX7_mounts_101 : decode cX7_mounts 101 = .ok (.bipush 15, 2) := by decide +kernel
theorem dX7_mounts_103 : decode cX7_mounts 103 = .ok (.iaload, 1) := by decide +kernel
theorem dX7_mounts_104 : decode cX7_mounts 104 = .ok (.iastore, 1) := by decide +kernel
theorem dX7_mounts_105 : decode cX7_mounts 105 = .ok (.aload_n 0, 1) := by decide +kernel
theorem dX7_mounts_106 : decode cX7_mounts 106 = .ok (.getfield 7, 3) := by decide +kernel
theorem dX7_mounts_109 : decode cX7_mounts 109 = .ok (.bipush 15, 2) := by decide +kernel
theorem dX7_mounts_111 : decode cX7_mounts 111 = .ok (.dup2, 1) := by decide +kernel
theorem dX7_mounts_112 : decode cX7_mounts 112 = .ok (.iaload, 1) := by decide +kernel
theorem dX7_mounts_113 : decode cX7_mounts 113 = .ok (.iconst 1, 1) := by decide +kernel
theorem dX7_mounts_114 : decode cX7_mounts 114 = .ok (.iadd, 1) := by decide +kernel
theorem dX7_mounts_115 : decode cX7_mounts 115 = .ok (.iastore, 1) := by decide +kernel
theorem dX7_mounts_116 : decode cX7_mounts 116 = .ok (.aload_n 0, 1) := by decide +kernel
theorem dX7_mounts_117 : decode cX7_mounts 117 = .ok (.getfield 7, 3) := by decide +kernel
theorem dX7_mounts_120 : decode cX7_mounts 120 = .ok (.bipush 48, 2) := by decide +kernel
theorem dX7_mounts_122 : decode cX7_mounts 122 = .ok (.iconst 4, 1) := by decide +kernel
theorem dX7_mounts_123 : decode cX7_mounts 123 = .ok (.iload_n 2, 1) := by decide +kernel
theorem dX7_mounts_124 : decode cX7_mounts 124 = .ok (.imul, 1) := by decide +kernel
theorem dX7_mounts_125 : decode cX7_mounts 125 = .ok (.iadd, 1) := by decide +kernel
theorem dX7_mounts_126 : decode cX7_mounts 126 = .ok (.iconst 1, 1) := by decide +kernel
theorem dX7_mounts_127 : decode cX7_mounts 127 = .ok (.iadd, 1) := by decide +kernel
theorem dX7_mounts_128 : decode cX7_mounts 128 = .ok (.dup2, 1) := by decide +kernel
theorem dX7_mounts_129 : decode cX7_mounts 129 = .ok (.iaload, 1) := by decide +kernel
theorem dX7_mounts_130 : decode cX7_mounts 130 = .ok (.iconst 1, 1) := by decide +kernel
theorem dX7_mounts_131 : decode cX7_mounts 131 = .ok (.iadd, 1) := by decide +kernel
theorem dX7_mounts_132 : decode cX7_mounts 132 = .ok (.iastore, 1) := by decide +kernel
theorem dX7_mounts_133 : decode cX7_mounts 133 = .ok (.aload_n 0, 1) := by decide +kernel
theorem dX7_mounts_134 : decode cX7_mounts 134 = .ok (.iload_n 2, 1) := by decide +kernel
theorem dX7_mounts_135 : decode cX7_mounts 135 = .ok (.iconst 2, 1) := by decide +kernel
theorem dX7_mounts_136 : decode cX7_mounts 136 = .ok (.invokevirtual 55, 3) := by decide +kernel
theorem dX7_mounts_139 : decode cX7_mounts 139 = .ok (.aload_n 0, 1) := by decide +kernel
theorem dX7_mounts_140 : decode cX7_mounts 140 = .ok (.getfield 7, 3) := by decide +kernel
theorem dX7_mounts_143 : decode cX7_mounts 143 = .ok (.iconst 0, 1) := by decide +kernel
theorem dX7_mounts_144 : decode cX7_mounts 144 = .ok (.dup2, 1) := by decide +kernel
theorem dX7_mounts_145 : decode cX7_mounts 145 = .ok (.iaload, 1) := by decide +kernel
theorem dX7_mounts_146 : decode cX7_mounts 146 = .ok (.iconst 3, 1) := by decide +kernel
theorem dX7_mounts_147 : decode cX7_mounts 147 = .ok (.iadd, 1) := by decide +kernel
theorem dX7_mounts_148 : decode cX7_mounts 148 = .ok (.iastore, 1) := by decide +kernel
theorem dX7_mounts_149 : decode cX7_mounts 149 = .ok (.aload_n 0, 1) := by decide +kernel
theorem dX7_mounts_150 : decode cX7_mounts 150 = .ok (.iload_n 2, 1) := by decide +kernel
theorem dX7_mounts_151 : decode cX7_mounts 151 = .ok (.invokevirtual 91, 3) := by decide +kernel
theorem dX7_mounts_154 : decode cX7_mounts 154 = .ok (.ireturn, 1) := by decide +kernel
theorem dX7_mount_0 : decode cX7_mount 0 = .ok (.aload_n 0, 1) := by decide +kernel
theorem dX7_mount_1 : decode cX7_mount 1 = .ok (.invokevirtual 37, 3) := by decide +kernel
theorem dX7_mount_4 : decode cX7_mount 4 = .ok (.aload_n 0, 1) := by decide +kernel
theorem dX7_mount_5 : decode cX7_mount 5 = .ok (.aload_n 0, 1) := by decide +kernel
theorem dX7_mount_6 : decode cX7_mount 6 = .ok (.iload_n 1, 1) := by decide +kernel
theorem dX7_mount_7 : decode cX7_mount 7 = .ok (.invokevirtual 94, 3) := by decide +kernel
theorem dX7_mount_10 : decode cX7_mount 10 = .ok (.invokevirtual 40, 3) := by decide +kernel
theorem dX7_mount_13 : decode cX7_mount 13 = .ok (.ireturn, 1) := by decide +kernel
theorem dX7_takes_0 : decode cX7_takes 0 = .ok (.iload_n 1, 1) := by decide +kernel
theorem dX7_takes_1 : decode cX7_takes 1 = .ok (.iconst 0, 1) := by decide +kernel
theorem dX7_takes_2 : decode cX7_takes 2 = .ok (.iconst 1, 1) := by decide +kernel
theorem dX7_takes_3 : decode cX7_takes 3 = .ok (.invokestatic 26, 3) := by decide +kernel
theorem dX7_takes_6 : decode cX7_takes 6 = .ok (.ifCond .ne 6, 3) := by decide +kernel
theorem dX7_takes_9 : decode cX7_takes 9 = .ok (.ldc 30, 2) := by decide +kernel
theorem dX7_takes_11 : decode cX7_takes 11 = .ok (.ireturn, 1) := by decide +kernel
theorem dX7_takes_12 : decode cX7_takes 12 = .ok (.aload_n 0, 1) := by decide +kernel
theorem dX7_takes_13 : decode cX7_takes 13 = .ok (.getfield 7, 3) := by decide +kernel
theorem dX7_takes_16 : decode cX7_takes 16 = .ok (.bipush 11, 2) := by decide +kernel
theorem dX7_takes_18 : decode cX7_takes 18 = .ok (.iload_n 1, 1) := by decide +kernel
theorem dX7_takes_19 : decode cX7_takes 19 = .ok (.iadd, 1) := by decide +kernel
theorem dX7_takes_20 : decode cX7_takes 20 = .ok (.iaload, 1) := by decide +kernel
theorem dX7_takes_21 : decode cX7_takes 21 = .ok (.istore_n 2, 1) := by decide +kernel
theorem dX7_takes_22 : decode cX7_takes 22 = .ok (.aload_n 0, 1) := by decide +kernel
theorem dX7_takes_23 : decode cX7_takes 23 = .ok (.getfield 7, 3) := by decide +kernel
theorem dX7_takes_26 : decode cX7_takes 26 = .ok (.iconst 1, 1) := by decide +kernel
theorem dX7_takes_27 : decode cX7_takes 27 = .ok (.iaload, 1) := by decide +kernel
theorem dX7_takes_28 : decode cX7_takes 28 = .ok (.iload_n 1, 1) := by decide +kernel
theorem dX7_takes_29 : decode cX7_takes 29 = .ok (.invokestatic 88, 3) := by decide +kernel
theorem dX7_takes_32 : decode cX7_takes 32 = .ok (.if_icmp .ne 7, 3) := by decide +kernel
theorem dX7_takes_35 : decode cX7_takes 35 = .ok (.iload_n 2, 1) := by decide +kernel
theorem dX7_takes_36 : decode cX7_takes 36 = .ok (.ifCond .ge 6, 3) := by decide +kernel
theorem dX7_takes_39 : decode cX7_takes 39 = .ok (.ldc 35, 2) := by decide +kernel
theorem dX7_takes_41 : decode cX7_takes 41 = .ok (.ireturn, 1) := by decide +kernel
theorem dX7_takes_42 : decode cX7_takes 42 = .ok (.aload_n 0, 1) := by decide +kernel
theorem dX7_takes_43 : decode cX7_takes 43 = .ok (.getfield 7, 3) := by decide +kernel
theorem dX7_takes_46 : decode cX7_takes 46 = .ok (.iconst 2, 1) := by decide +kernel
theorem dX7_takes_47 : decode cX7_takes 47 = .ok (.iaload, 1) := by decide +kernel
theorem dX7_takes_48 : decode cX7_takes 48 = .ok (.iconst 3, 1) := by decide +kernel
theorem dX7_takes_49 : decode cX7_takes 49 = .ok (.if_icmp .ne 6, 3) := by decide +kernel
theorem dX7_takes_52 : decode cX7_takes 52 = .ok (.ldc 36, 2) := by decide +kernel
theorem dX7_takes_54 : decode cX7_takes 54 = .ok (.ireturn, 1) := by decide +kernel
theorem dX7_takes_55 : decode cX7_takes 55 = .ok (.aload_n 0, 1) := by decide +kernel
theorem dX7_takes_56 : decode cX7_takes 56 = .ok (.getfield 7, 3) := by decide +kernel
theorem dX7_takes_59 : decode cX7_takes 59 = .ok (.bipush 11, 2) := by decide +kernel
theorem dX7_takes_61 : decode cX7_takes 61 = .ok (.iload_n 1, 1) := by decide +kernel
theorem dX7_takes_62 : decode cX7_takes 62 = .ok (.iadd, 1) := by decide +kernel
theorem dX7_takes_63 : decode cX7_takes 63 = .ok (.iconst (-1), 1) := by decide +kernel
theorem dX7_takes_64 : decode cX7_takes 64 = .ok (.iastore, 1) := by decide +kernel
theorem dX7_takes_65 : decode cX7_takes 65 = .ok (.aload_n 0, 1) := by decide +kernel
theorem dX7_takes_66 : decode cX7_takes 66 = .ok (.iload_n 2, 1) := by decide +kernel
theorem dX7_takes_67 : decode cX7_takes 67 = .ok (.invokevirtual 66, 3) := by decide +kernel
theorem dX7_takes_70 : decode cX7_takes 70 = .ok (.aload_n 0, 1) := by decide +kernel
theorem dX7_takes_71 : decode cX7_takes 71 = .ok (.getfield 7, 3) := by decide +kernel
theorem dX7_takes_74 : decode cX7_takes 74 = .ok (.iconst 0, 1) := by decide +kernel
theorem dX7_takes_75 : decode cX7_takes 75 = .ok (.dup2, 1) := by decide +kernel
theorem dX7_takes_76 : decode cX7_takes 76 = .ok (.iaload, 1) := by decide +kernel
theorem dX7_takes_77 : decode cX7_takes 77 = .ok (.iconst 2, 1) := by decide +kernel
theorem dX7_takes_78 : decode cX7_takes 78 = .ok (.iadd, 1) := by decide +kernel
theorem dX7_takes_79 : decode cX7_takes 79 = .ok (.iastore, 1) := by decide +kernel
theorem dX7_takes_80 : decode cX7_takes 80 = .ok (.iload_n 2, 1) := by decide +kernel
theorem dX7_takes_81 : decode cX7_takes 81 = .ok (.ireturn, 1) := by decide +kernel
theorem dX7_take_0 : decode cX7_take 0 = .ok (.aload_n 0, 1) := by decide +kernel
theorem dX7_take_1 : decode cX7_take 1 = .ok (.invokevirtual 37, 3) := by decide +kernel
theorem dX7_take_4 : decode cX7_take 4 = .ok (.aload_n 0, 1) := by decide +kernel
theorem dX7_take_5 : decode cX7_take 5 = .ok (.aload_n 0, 1) := by decide +kernel
theorem dX7_take_6 : decode cX7_take 6 = .ok (.iload_n 1, 1) := by decide +kernel
theorem dX7_take_7 : decode cX7_take 7 = .ok (.invokevirtual 97, 3) := by decide +kernel
theorem dX7_take_10 : decode cX7_take 10 = .ok (.invokevirtual 40, 3) := by decide +kernel
theorem dX7_take_13 : decode cX7_take 13 = .ok (.ireturn, 1) := by decide +kernel
theorem dX7_files_0 : decode cX7_files 0 = .ok (.iconst 0, 1) := by decide +kernel
theorem dX7_files_1 : decode cX7_files 1 = .ok (.istore_n 2, 1) := by decide +kernel
theorem dX7_files_2 : decode cX7_files 2 = .ok (.iconst 0, 1) := by decide +kernel
theorem dX7_files_3 : decode cX7_files 3 = .ok (.istore_n 3, 1) := by decide +kernel
theorem dX7_files_4 : decode cX7_files 4 = .ok (.iload_n 3, 1) := by decide +kernel
theorem dX7_files_5 : decode cX7_files 5 = .ok (.bipush 60, 2) := by decide +kernel
theorem dX7_files_7 : decode cX7_files 7 = .ok (.if_icmp .ge 31, 3) := by decide +kernel
theorem dX7_files_10 : decode cX7_files 10 = .ok (.iload_n 2, 1) := by decide +kernel
theorem dX7_files_11 : decode cX7_files 11 = .ok (.aload_n 0, 1) := by decide +kernel
theorem dX7_files_12 : decode cX7_files 12 = .ok (.getfield 7, 3) := by decide +kernel
theorem dX7_files_15 : decode cX7_files 15 = .ok (.sipush 168, 3) := by decide +kernel
theorem dX7_files_18 : decode cX7_files 18 = .ok (.iload_n 3, 1) := by decide +kernel
theorem dX7_files_19 : decode cX7_files 19 = .ok (.iadd, 1) := by decide +kernel
theorem dX7_files_20 : decode cX7_files 20 = .ok (.iaload, 1) := by decide +kernel
theorem dX7_files_21 : decode cX7_files 21 = .ok (.iload_n 1, 1) := by decide +kernel
theorem dX7_files_22 : decode cX7_files 22 = .ok (.if_icmp .ne 7, 3) := by decide +kernel
theorem dX7_files_25 : decode cX7_files 25 = .ok (.iconst 1, 1) := by decide +kernel
theorem dX7_files_26 : decode cX7_files 26 = .ok (.goto 4, 3) := by decide +kernel
theorem dX7_files_29 : decode cX7_files 29 = .ok (.iconst 0, 1) := by decide +kernel
theorem dX7_files_30 : decode cX7_files 30 = .ok (.iadd, 1) := by decide +kernel
theorem dX7_files_31 : decode cX7_files 31 = .ok (.istore_n 2, 1) := by decide +kernel
theorem dX7_files_32 : decode cX7_files 32 = .ok (.iinc 3 1, 3) := by decide +kernel
theorem dX7_files_35 : decode cX7_files 35 = .ok (.goto (-31), 3) := by decide +kernel
theorem dX7_files_38 : decode cX7_files 38 = .ok (.iload_n 2, 1) := by decide +kernel
theorem dX7_files_39 : decode cX7_files 39 = .ok (.ireturn, 1) := by decide +kernel
theorem dX7_hold_0 : decode cX7_hold 0 = .ok (.aload_n 0, 1) := by decide +kernel
theorem dX7_hold_1 : decode cX7_hold 1 = .ok (.iload_n 1, 1) := by decide +kernel
theorem dX7_hold_2 : decode cX7_hold 2 = .ok (.invokevirtual 48, 3) := by decide +kernel
theorem dX7_hold_5 : decode cX7_hold 5 = .ok (.ifCond .eq 13, 3) := by decide +kernel
theorem dX7_hold_8 : decode cX7_hold 8 = .ok (.iload_n 2, 1) := by decide +kernel
theorem dX7_hold_9 : decode cX7_hold 9 = .ok (.iconst 0, 1) := by decide +kernel
theorem dX7_hold_10 : decode cX7_hold 10 = .ok (.bipush 59, 2) := by decide +kernel
theorem dX7_hold_12 : decode cX7_hold 12 = .ok (.invokestatic 26, 3) := by decide +kernel
theorem dX7_hold_15 : decode cX7_hold 15 = .ok (.ifCond .ne 6, 3) := by decide +kernel
theorem dX7_hold_18 : decode cX7_hold 18 = .ok (.ldc 30, 2) := by decide +kernel
theorem dX7_hold_20 : decode cX7_hold 20 = .ok (.ireturn, 1) := by decide +kernel
theorem dX7_hold_21 : decode cX7_hold 21 = .ok (.aload_n 0, 1) := by decide +kernel
theorem dX7_hold_22 : decode cX7_hold 22 = .ok (.iload_n 1, 1) := by decide +kernel
theorem dX7_hold_23 : decode cX7_hold 23 = .ok (.iconst 2, 1) := by decide +kernel
theorem dX7_hold_24 : decode cX7_hold 24 = .ok (.invokevirtual 44, 3) := by decide +kernel
theorem dX7_hold_27 : decode cX7_hold 27 = .ok (.iconst 3, 1) := by decide +kernel
theorem dX7_hold_28 : decode cX7_hold 28 = .ok (.if_icmp .ne 6, 3) := by decide +kernel
theorem dX7_hold_31 : decode cX7_hold 31 = .ok (.ldc 35, 2) := by decide +kernel
theorem dX7_hold_33 : decode cX7_hold 33 = .ok (.ireturn, 1) := by decide +kernel
theorem dX7_hold_34 : decode cX7_hold 34 = .ok (.aload_n 0, 1) := by decide +kernel
theorem dX7_hold_35 : decode cX7_hold 35 = .ok (.getfield 7, 3) := by decide +kernel
theorem dX7_hold_38 : decode cX7_hold 38 = .ok (.sipush 168, 3) := by decide +kernel
theorem dX7_hold_41 : decode cX7_hold 41 = .ok (.iload_n 2, 1) := by decide +kernel
theorem dX7_hold_42 : decode cX7_hold 42 = .ok (.iadd, 1) := by decide +kernel
theorem dX7_hold_43 : decode cX7_hold 43 = .ok (.iaload, 1) := by decide +kernel
theorem dX7_hold_44 : decode cX7_hold 44 = .ok (.istore_n 3, 1) := by decide +kernel
theorem dX7_hold_45 : decode cX7_hold 45 = .ok (.iload_n 3, 1) := by decide +kernel
theorem dX7_hold_46 : decode cX7_hold 46 = .ok (.iload_n 1, 1) := by decide +kernel
theorem dX7_hold_47 : decode cX7_hold 47 = .ok (.if_icmp .eq 15, 3) := by decide +kernel
theorem dX7_hold_50 : decode cX7_hold 50 = .ok (.aload_n 0, 1) := by decide +kernel
theorem dX7_hold_51 : decode cX7_hold 51 = .ok (.iload_n 1, 1) := by decide +kernel
theorem dX7_hold_52 : decode cX7_hold 52 = .ok (.invokevirtual 100, 3) := by decide +kernel
theorem dX7_hold_55 : decode cX7_hold 55 = .ok (.iconst 4, 1) := by decide +kernel
theorem dX7_hold_56 : decode cX7_hold 56 = .ok (.if_icmp .ne 6, 3) := by decide +kernel
theorem dX7_hold_59 : decode cX7_hold 59 = .ok (.ldc 36, 2) := by decide +kernel
theorem dX7_hold_61 : decode cX7_hold 61 = .ok (.ireturn, 1) := by decide +kernel
theorem dX7_hold_62 : decode cX7_hold 62 = .ok (.aload_n 0, 1) := by decide +kernel
theorem dX7_hold_63 : decode cX7_hold 63 = .ok (.invokevirtual 37, 3) := by decide +kernel
theorem dX7_hold_66 : decode cX7_hold 66 = .ok (.aload_n 0, 1) := by decide +kernel
theorem dX7_hold_67 : decode cX7_hold 67 = .ok (.getfield 7, 3) := by decide +kernel
theorem dX7_hold_70 : decode cX7_hold 70 = .ok (.sipush 168, 3) := by decide +kernel
theorem dX7_hold_73 : decode cX7_hold 73 = .ok (.iload_n 2, 1) := by decide +kernel
theorem dX7_hold_74 : decode cX7_hold 74 = .ok (.iadd, 1) := by decide +kernel
theorem dX7_hold_75 : decode cX7_hold 75 = .ok (.iload_n 1, 1) := by decide +kernel
theorem dX7_hold_76 : decode cX7_hold 76 = .ok (.iastore, 1) := by decide +kernel
theorem dX7_hold_77 : decode cX7_hold 77 = .ok (.aload_n 0, 1) := by decide +kernel
theorem dX7_hold_78 : decode cX7_hold 78 = .ok (.iload_n 3, 1) := by decide +kernel
theorem dX7_hold_79 : decode cX7_hold 79 = .ok (.invokevirtual 40, 3) := by decide +kernel
theorem dX7_hold_82 : decode cX7_hold 82 = .ok (.ireturn, 1) := by decide +kernel
theorem dX7_request_0 : decode cX7_request 0 = .ok (.iload_n 1, 1) := by decide +kernel
theorem dX7_request_1 : decode cX7_request 1 = .ok (.iconst 0, 1) := by decide +kernel
theorem dX7_request_2 : decode cX7_request 2 = .ok (.bipush 59, 2) := by decide +kernel
theorem dX7_request_4 : decode cX7_request 4 = .ok (.invokestatic 26, 3) := by decide +kernel
theorem dX7_request_7 : decode cX7_request 7 = .ok (.ifCond .eq 13, 3) := by decide +kernel
theorem dX7_request_10 : decode cX7_request 10 = .ok (.iload_n 2, 1) := by decide +kernel
theorem dX7_request_11 : decode cX7_request 11 = .ok (.iconst 0, 1) := by decide +kernel
theorem dX7_request_12 : decode cX7_request 12 = .ok (.bipush 9, 2) := by decide +kernel
theorem dX7_request_14 : decode cX7_request 14 = .ok (.invokestatic 26, 3) := by decide +kernel
theorem dX7_request_17 : decode cX7_request 17 = .ok (.ifCond .ne 6, 3) := by decide +kernel
theorem dX7_request_20 : decode cX7_request 20 = .ok (.ldc 30, 2) := by decide +kernel
theorem dX7_request_22 : decode cX7_request 22 = .ok (.ireturn, 1) := by decide +kernel
theorem dX7_request_23 : decode cX7_request 23 = .ok (.aload_n 0, 1) := by decide +kernel
theorem dX7_request_24 : decode cX7_request 24 = .ok (.getfield 7, 3) := by decide +kernel
theorem dX7_request_27 : decode cX7_request 27 = .ok (.bipush 8, 2) := by decide +kernel
theorem dX7_request_29 : decode cX7_request 29 = .ok (.iaload, 1) := by decide +kernel
theorem dX7_request_30 : decode cX7_request 30 = .ok (.bipush 12, 2) := by decide +kernel
theorem dX7_request_32 : decode cX7_request 32 = .ok (.if_icmp .ne 6, 3) := by decide +kernel
theorem dX7_request_35 : decode cX7_request 35 = .ok (.ldc 36, 2) := by decide +kernel
theorem dX7_request_37 : decode cX7_request 37 = .ok (.ireturn, 1) := by decide +kernel
theorem dX7_request_38 : decode cX7_request 38 = .ok (.aload_n 0, 1) := by decide +kernel
theorem dX7_request_39 : decode cX7_request 39 = .ok (.invokevirtual 37, 3) := by decide +kernel
theorem dX7_request_42 : decode cX7_request 42 = .ok (.sipush 228, 3) := by decide +kernel
theorem dX7_request_45 : decode cX7_request 45 = .ok (.iconst 3, 1) := by decide +kernel
theorem dX7_request_46 : decode cX7_request 46 = .ok (.aload_n 0, 1) := by decide +kernel
theorem dX7_request_47 : decode cX7_request 47 = .ok (.getfield 7, 3) := by decide +kernel
theorem dX7_request_50 : decode cX7_request 50 = .ok (.bipush 8, 2) := by decide +kernel
theorem dX7_request_52 : decode cX7_request 52 = .ok (.iaload, 1) := by decide +kernel
theorem dX7_request_53 : decode cX7_request 53 = .ok (.imul, 1) := by decide +kernel
theorem dX7_request_54 : decode cX7_request 54 = .ok (.iadd, 1) := by decide +kernel
theorem dX7_request_55 : decode cX7_request 55 = .ok (.istore_n 3, 1) := by decide +kernel
theorem dX7_request_56 : decode cX7_request 56 = .ok (.aload_n 0, 1) := by decide +kernel
theorem dX7_request_57 : decode cX7_request 57 = .ok (.getfield 7, 3) := by decide +kernel
theorem dX7_request_60 : decode cX7_request 60 = .ok (.iload_n 3, 1) := by decide +kernel
theorem dX7_request_61 : decode cX7_request 61 = .ok (.iload_n 1, 1) := by decide +kernel
theorem dX7_request_62 : decode cX7_request 62 = .ok (.iastore, 1) := by decide +kernel
theorem dX7_request_63 : decode cX7_request 63 = .ok (.aload_n 0, 1) := by decide +kernel
theorem dX7_request_64 : decode cX7_request 64 = .ok (.getfield 7, 3) := by decide +kernel
theorem dX7_request_67 : decode cX7_request 67 = .ok (.iload_n 3, 1) := by decide +kernel
theorem dX7_request_68 : decode cX7_request 68 = .ok (.iconst 1, 1) := by decide +kernel
theorem dX7_request_69 : decode cX7_request 69 = .ok (.iadd, 1) := by decide +kernel
theorem dX7_request_70 : decode cX7_request 70 = .ok (.iload_n 2, 1) := by decide +kernel
theorem dX7_request_71 : decode cX7_request 71 = .ok (.iastore, 1) := by decide +kernel
theorem dX7_request_72 : decode cX7_request 72 = .ok (.aload_n 0, 1) := by decide +kernel
theorem dX7_request_73 : decode cX7_request 73 = .ok (.getfield 7, 3) := by decide +kernel
theorem dX7_request_76 : decode cX7_request 76 = .ok (.iload_n 3, 1) := by decide +kernel
theorem dX7_request_77 : decode cX7_request 77 = .ok (.iconst 2, 1) := by decide +kernel
theorem dX7_request_78 : decode cX7_request 78 = .ok (.iadd, 1) := by decide +kernel
theorem dX7_request_79 : decode cX7_request 79 = .ok (.aload_n 0, 1) := by decide +kernel
theorem dX7_request_80 : decode cX7_request 80 = .ok (.getfield 7, 3) := by decide +kernel
theorem dX7_request_83 : decode cX7_request 83 = .ok (.iconst 0, 1) := by decide +kernel
theorem dX7_request_84 : decode cX7_request 84 = .ok (.iaload, 1) := by decide +kernel
theorem dX7_request_85 : decode cX7_request 85 = .ok (.iastore, 1) := by decide +kernel
theorem dX7_request_86 : decode cX7_request 86 = .ok (.aload_n 0, 1) := by decide +kernel
theorem dX7_request_87 : decode cX7_request 87 = .ok (.getfield 7, 3) := by decide +kernel
theorem dX7_request_90 : decode cX7_request 90 = .ok (.bipush 8, 2) := by decide +kernel
theorem dX7_request_92 : decode cX7_request 92 = .ok (.dup2, 1) := by decide +kernel
theorem dX7_request_93 : decode cX7_request 93 = .ok (.iaload, 1) := by decide +kernel
theorem dX7_request_94 : decode cX7_request 94 = .ok (.iconst 1, 1) := by decide +kernel
theorem dX7_request_95 : decode cX7_request 95 = .ok (.iadd, 1) := by decide +kernel
theorem dX7_request_96 : decode cX7_request 96 = .ok (.iastore, 1) := by decide +kernel
theorem dX7_request_97 : decode cX7_request 97 = .ok (.aload_n 0, 1) := by decide +kernel
theorem dX7_request_98 : decode cX7_request 98 = .ok (.aload_n 0, 1) := by decide +kernel
theorem dX7_request_99 : decode cX7_request 99 = .ok (.getfield 7, 3) := by decide +kernel
theorem dX7_request_102 : decode cX7_request 102 = .ok (.bipush 8, 2) := by decide +kernel
theorem dX7_request_104 : decode cX7_request 104 = .ok (.iaload, 1) := by decide +kernel
theorem dX7_request_105 : decode cX7_request 105 = .ok (.invokevirtual 40, 3) := by decide +kernel
theorem dX7_request_108 : decode cX7_request 108 = .ok (.ireturn, 1) := by decide +kernel
theorem dX7_wanted_0 : decode cX7_wanted 0 = .ok (.iconst 0, 1) := by decide +kernel
theorem dX7_wanted_1 : decode cX7_wanted 1 = .ok (.istore_n 2, 1) := by decide +kernel
theorem dX7_wanted_2 : decode cX7_wanted 2 = .ok (.iconst 0, 1) := by decide +kernel
theorem dX7_wanted_3 : decode cX7_wanted 3 = .ok (.istore_n 3, 1) := by decide +kernel
theorem dX7_wanted_4 : decode cX7_wanted 4 = .ok (.iload_n 3, 1) := by decide +kernel
theorem dX7_wanted_5 : decode cX7_wanted 5 = .ok (.aload_n 0, 1) := by decide +kernel
theorem dX7_wanted_6 : decode cX7_wanted 6 = .ok (.getfield 7, 3) := by decide +kernel
theorem dX7_wanted_9 : decode cX7_wanted 9 = .ok (.bipush 8, 2) := by decide +kernel
theorem dX7_wanted_11 : decode cX7_wanted 11 = .ok (.iaload, 1) := by decide +kernel
theorem dX7_wanted_12 : decode cX7_wanted 12 = .ok (.if_icmp .ge 42, 3) := by decide +kernel
theorem dX7_wanted_15 : decode cX7_wanted 15 = .ok (.iload_n 2, 1) := by decide +kernel
theorem dX7_wanted_16 : decode cX7_wanted 16 = .ok (.aload_n 0, 1) := by decide +kernel
theorem dX7_wanted_17 : decode cX7_wanted 17 = .ok (.getfield 7, 3) := by decide +kernel
theorem dX7_wanted_20 : decode cX7_wanted 20 = .ok (.sipush 168, 3) := by decide +kernel
theorem dX7_wanted_23 : decode cX7_wanted 23 = .ok (.aload_n 0, 1) := by decide +kernel
theorem dX7_wanted_24 : decode cX7_wanted 24 = .ok (.getfield 7, 3) := by decide +kernel
theorem dX7_wanted_27 : decode cX7_wanted 27 = .ok (.sipush 228, 3) := by decide +kernel
theorem dX7_wanted_30 : decode cX7_wanted 30 = .ok (.iconst 3, 1) := by decide +kernel
theorem dX7_wanted_31 : decode cX7_wanted 31 = .ok (.iload_n 3, 1) := by decide +kernel
theorem dX7_wanted_32 : decode cX7_wanted 32 = .ok (.imul, 1) := by decide +kernel
theorem dX7_wanted_33 : decode cX7_wanted 33 = .ok (.iadd, 1) := by decide +kernel
theorem dX7_wanted_34 : decode cX7_wanted 34 = .ok (.iaload, 1) := by decide +kernel
theorem dX7_wanted_35 : decode cX7_wanted 35 = .ok (.iadd, 1) := by decide +kernel
theorem dX7_wanted_36 : decode cX7_wanted 36 = .ok (.iaload, 1) := by decide +kernel
theorem dX7_wanted_37 : decode cX7_wanted 37 = .ok (.iload_n 1, 1) := by decide +kernel
theorem dX7_wanted_38 : decode cX7_wanted 38 = .ok (.if_icmp .ne 7, 3) := by decide +kernel
theorem dX7_wanted_41 : decode cX7_wanted 41 = .ok (.iconst 1, 1) := by decide +kernel
theorem dX7_wanted_42 : decode cX7_wanted 42 = .ok (.goto 4, 3) := by decide +kernel
theorem dX7_wanted_45 : decode cX7_wanted 45 = .ok (.iconst 0, 1) := by decide +kernel
theorem dX7_wanted_46 : decode cX7_wanted 46 = .ok (.iadd, 1) := by decide +kernel
theorem dX7_wanted_47 : decode cX7_wanted 47 = .ok (.istore_n 2, 1) := by decide +kernel
theorem dX7_wanted_48 : decode cX7_wanted 48 = .ok (.iinc 3 1, 3) := by decide +kernel
theorem dX7_wanted_51 : decode cX7_wanted 51 = .ok (.goto (-47), 3) := by decide +kernel
theorem dX7_wanted_54 : decode cX7_wanted 54 = .ok (.iload_n 2, 1) := by decide +kernel
theorem dX7_wanted_55 : decode cX7_wanted 55 = .ok (.ireturn, 1) := by decide +kernel
theorem dX7_apart_0 : decode cX7_apart 0 = .ok (.iload_n 1, 1) := by decide +kernel
theorem dX7_apart_1 : decode cX7_apart 1 = .ok (.iload_n 0, 1) := by decide +kernel
theorem dX7_apart_2 : decode cX7_apart 2 = .ok (.isub, 1) := by decide +kernel
theorem dX7_apart_3 : decode cX7_apart 3 = .ok (.bipush 8, 2) := by decide +kernel
theorem dX7_apart_5 : decode cX7_apart 5 = .ok (.iadd, 1) := by decide +kernel
theorem dX7_apart_6 : decode cX7_apart 6 = .ok (.bipush 8, 2) := by decide +kernel
theorem dX7_apart_8 : decode cX7_apart 8 = .ok (.irem, 1) := by decide +kernel
theorem dX7_apart_9 : decode cX7_apart 9 = .ok (.istore_n 2, 1) := by decide +kernel
theorem dX7_apart_10 : decode cX7_apart 10 = .ok (.iload_n 2, 1) := by decide +kernel
theorem dX7_apart_11 : decode cX7_apart 11 = .ok (.iconst 4, 1) := by decide +kernel
theorem dX7_apart_12 : decode cX7_apart 12 = .ok (.if_icmp .gt 7, 3) := by decide +kernel
theorem dX7_apart_15 : decode cX7_apart 15 = .ok (.iload_n 2, 1) := by decide +kernel
theorem dX7_apart_16 : decode cX7_apart 16 = .ok (.goto 7, 3) := by decide +kernel
theorem dX7_apart_19 : decode cX7_apart 19 = .ok (.bipush 8, 2) := by decide +kernel
theorem dX7_apart_21 : decode cX7_apart 21 = .ok (.iload_n 2, 1) := by decide +kernel
theorem dX7_apart_22 : decode cX7_apart 22 = .ok (.isub, 1) := by decide +kernel
theorem dX7_apart_23 : decode cX7_apart 23 = .ok (.ireturn, 1) := by decide +kernel
theorem dX7_worth_0 : decode cX7_worth 0 = .ok (.aload_n 0, 1) := by decide +kernel
theorem dX7_worth_1 : decode cX7_worth 1 = .ok (.getfield 7, 3) := by decide +kernel
theorem dX7_worth_4 : decode cX7_worth 4 = .ok (.sipush 168, 3) := by decide +kernel
theorem dX7_worth_7 : decode cX7_worth 7 = .ok (.aload_n 0, 1) := by decide +kernel
theorem dX7_worth_8 : decode cX7_worth 8 = .ok (.getfield 7, 3) := by decide +kernel
theorem dX7_worth_11 : decode cX7_worth 11 = .ok (.sipush 228, 3) := by decide +kernel
theorem dX7_worth_14 : decode cX7_worth 14 = .ok (.iconst 3, 1) := by decide +kernel
theorem dX7_worth_15 : decode cX7_worth 15 = .ok (.iload_n 1, 1) := by decide +kernel
theorem dX7_worth_16 : decode cX7_worth 16 = .ok (.imul, 1) := by decide +kernel
theorem dX7_worth_17 : decode cX7_worth 17 = .ok (.iadd, 1) := by decide +kernel
theorem dX7_worth_18 : decode cX7_worth 18 = .ok (.iaload, 1) := by decide +kernel
theorem dX7_worth_19 : decode cX7_worth 19 = .ok (.iadd, 1) := by decide +kernel
theorem dX7_worth_20 : decode cX7_worth 20 = .ok (.iaload, 1) := by decide +kernel
theorem dX7_worth_21 : decode cX7_worth 21 = .ok (.istore_n 3, 1) := by decide +kernel
theorem dX7_worth_22 : decode cX7_worth 22 = .ok (.iload_n 2, 1) := by decide +kernel
theorem dX7_worth_23 : decode cX7_worth 23 = .ok (.tableswitch 60 0 2 #[25, 27, 42], 25) := by decide +kernel
theorem dX7_worth_48 : decode cX7_worth 48 = .ok (.iconst 0, 1) := by decide +kernel
theorem dX7_worth_49 : decode cX7_worth 49 = .ok (.ireturn, 1) := by decide +kernel
theorem dX7_worth_50 : decode cX7_worth 50 = .ok (.aload_n 0, 1) := by decide +kernel
theorem dX7_worth_51 : decode cX7_worth 51 = .ok (.getfield 7, 3) := by decide +kernel
theorem dX7_worth_54 : decode cX7_worth 54 = .ok (.sipush 228, 3) := by decide +kernel
theorem dX7_worth_57 : decode cX7_worth 57 = .ok (.iconst 3, 1) := by decide +kernel
theorem dX7_worth_58 : decode cX7_worth 58 = .ok (.iload_n 1, 1) := by decide +kernel
theorem dX7_worth_59 : decode cX7_worth 59 = .ok (.imul, 1) := by decide +kernel
theorem dX7_worth_60 : decode cX7_worth 60 = .ok (.iadd, 1) := by decide +kernel
theorem dX7_worth_61 : decode cX7_worth 61 = .ok (.iconst 1, 1) := by decide +kernel
theorem dX7_worth_62 : decode cX7_worth 62 = .ok (.iadd, 1) := by decide +kernel
theorem dX7_worth_63 : decode cX7_worth 63 = .ok (.iaload, 1) := by decide +kernel
theorem dX7_worth_64 : decode cX7_worth 64 = .ok (.ireturn, 1) := by decide +kernel
theorem dX7_worth_65 : decode cX7_worth 65 = .ok (.aload_n 0, 1) := by decide +kernel
theorem dX7_worth_66 : decode cX7_worth 66 = .ok (.getfield 7, 3) := by decide +kernel
theorem dX7_worth_69 : decode cX7_worth 69 = .ok (.iconst 1, 1) := by decide +kernel
theorem dX7_worth_70 : decode cX7_worth 70 = .ok (.iaload, 1) := by decide +kernel
theorem dX7_worth_71 : decode cX7_worth 71 = .ok (.aload_n 0, 1) := by decide +kernel
theorem dX7_worth_72 : decode cX7_worth 72 = .ok (.iload_n 3, 1) := by decide +kernel
theorem dX7_worth_73 : decode cX7_worth 73 = .ok (.invokevirtual 52, 3) := by decide +kernel
theorem dX7_worth_76 : decode cX7_worth 76 = .ok (.iconst 4, 1) := by decide +kernel
theorem dX7_worth_77 : decode cX7_worth 77 = .ok (.idiv, 1) := by decide +kernel
theorem dX7_worth_78 : decode cX7_worth 78 = .ok (.invokestatic 103, 3) := by decide +kernel
theorem dX7_worth_81 : decode cX7_worth 81 = .ok (.ineg, 1) := by decide +kernel
theorem dX7_worth_82 : decode cX7_worth 82 = .ok (.ireturn, 1) := by decide +kernel
theorem dX7_worth_83 : decode cX7_worth 83 = .ok (.aload_n 0, 1) := by decide +kernel
theorem dX7_worth_84 : decode cX7_worth 84 = .ok (.iload_n 3, 1) := by decide +kernel
theorem dX7_worth_85 : decode cX7_worth 85 = .ok (.invokevirtual 106, 3) := by decide +kernel
theorem dX7_worth_88 : decode cX7_worth 88 = .ok (.ireturn, 1) := by decide +kernel
theorem dX7_next_0 : decode cX7_next 0 = .ok (.iconst (-1), 1) := by decide +kernel
theorem dX7_next_1 : decode cX7_next 1 = .ok (.istore_n 2, 1) := by decide +kernel
theorem dX7_next_2 : decode cX7_next 2 = .ok (.iconst 0, 1) := by decide +kernel
theorem dX7_next_3 : decode cX7_next 3 = .ok (.istore_n 3, 1) := by decide +kernel
theorem dX7_next_4 : decode cX7_next 4 = .ok (.iload_n 3, 1) := by decide +kernel
theorem dX7_next_5 : decode cX7_next 5 = .ok (.aload_n 0, 1) := by decide +kernel
theorem dX7_next_6 : decode cX7_next 6 = .ok (.getfield 7, 3) := by decide +kernel
theorem dX7_next_9 : decode cX7_next 9 = .ok (.bipush 8, 2) := by decide +kernel
theorem dX7_next_11 : decode cX7_next 11 = .ok (.iaload, 1) := by decide +kernel
theorem dX7_next_12 : decode cX7_next 12 = .ok (.if_icmp .ge 96, 3) := by decide +kernel
theorem dX7_next_15 : decode cX7_next 15 = .ok (.aload_n 0, 1) := by decide +kernel
theorem dX7_next_16 : decode cX7_next 16 = .ok (.getfield 7, 3) := by decide +kernel
theorem dX7_next_19 : decode cX7_next 19 = .ok (.sipush 168, 3) := by decide +kernel
theorem dX7_next_22 : decode cX7_next 22 = .ok (.aload_n 0, 1) := by decide +kernel
theorem dX7_next_23 : decode cX7_next 23 = .ok (.getfield 7, 3) := by decide +kernel
theorem dX7_next_26 : decode cX7_next 26 = .ok (.sipush 228, 3) := by decide +kernel
theorem dX7_next_29 : decode cX7_next 29 = .ok (.iconst 3, 1) := by decide +kernel
theorem dX7_next_30 : decode cX7_next 30 = .ok (.iload_n 3, 1) := by decide +kernel
theorem dX7_next_31 : decode cX7_next 31 = .ok (.imul, 1) := by decide +kernel
theorem dX7_next_32 : decode cX7_next 32 = .ok (.iadd, 1) := by decide +kernel
theorem dX7_next_33 : decode cX7_next 33 = .ok (.iaload, 1) := by decide +kernel
theorem dX7_next_34 : decode cX7_next 34 = .ok (.iadd, 1) := by decide +kernel
theorem dX7_next_35 : decode cX7_next 35 = .ok (.iaload, 1) := by decide +kernel
theorem dX7_next_36 : decode cX7_next 36 = .ok (.istore 4, 2) := by decide +kernel
theorem dX7_next_38 : decode cX7_next 38 = .ok (.iload 4, 2) := by decide +kernel
theorem dX7_next_40 : decode cX7_next 40 = .ok (.ifCond .lt 29, 3) := by decide +kernel
theorem dX7_next_43 : decode cX7_next 43 = .ok (.aload_n 0, 1) := by decide +kernel
theorem dX7_next_44 : decode cX7_next 44 = .ok (.iload 4, 2) := by decide +kernel
theorem dX7_next_46 : decode cX7_next 46 = .ok (.iconst 2, 1) := by decide +kernel
theorem dX7_next_47 : decode cX7_next 47 = .ok (.invokevirtual 44, 3) := by decide +kernel
theorem dX7_next_50 : decode cX7_next 50 = .ok (.ifCond .ne 19, 3) := by decide +kernel
theorem dX7_next_53 : decode cX7_next 53 = .ok (.aload_n 0, 1) := by decide +kernel
theorem dX7_next_54 : decode cX7_next 54 = .ok (.iload 4, 2) := by decide +kernel
theorem dX7_next_56 : decode cX7_next 56 = .ok (.iconst 1, 1) := by decide +kernel
theorem dX7_next_57 : decode cX7_next 57 = .ok (.invokevirtual 44, 3) := by decide +kernel
theorem dX7_next_60 : decode cX7_next 60 = .ok (.bipush 6, 2) := by decide +kernel
theorem dX7_next_62 : decode cX7_next 62 = .ok (.if_icmp .ge 7, 3) := by decide +kernel
theorem dX7_next_65 : decode cX7_next 65 = .ok (.iconst 1, 1) := by decide +kernel
theorem dX7_next_66 : decode cX7_next 66 = .ok (.goto 4, 3) := by decide +kernel
theorem dX7_next_69 : decode cX7_next 69 = .ok (.iconst 0, 1) := by decide +kernel
theorem dX7_next_70 : decode cX7_next 70 = .ok (.istore 5, 2) := by decide +kernel
theorem dX7_next_72 : decode cX7_next 72 = .ok (.iload 5, 2) := by decide +kernel
theorem dX7_next_74 : decode cX7_next 74 = .ok (.ifCond .eq 26, 3) := by decide +kernel
theorem dX7_next_77 : decode cX7_next 77 = .ok (.iload_n 2, 1) := by decide +kernel
theorem dX7_next_78 : decode cX7_next 78 = .ok (.ifCond .lt 18, 3) := by decide +kernel
theorem dX7_next_81 : decode cX7_next 81 = .ok (.aload_n 0, 1) := by decide +kernel
theorem dX7_next_82 : decode cX7_next 82 = .ok (.iload_n 3, 1) := by decide +kernel
theorem dX7_next_83 : decode cX7_next 83 = .ok (.iload_n 1, 1) := by decide +kernel
theorem dX7_next_84 : decode cX7_next 84 = .ok (.invokevirtual 109, 3) := by decide +kernel
theorem dX7_next_87 : decode cX7_next 87 = .ok (.aload_n 0, 1) := by decide +kernel
theorem dX7_next_88 : decode cX7_next 88 = .ok (.iload_n 2, 1) := by decide +kernel
theorem dX7_next_89 : decode cX7_next 89 = .ok (.iload_n 1, 1) := by decide +kernel
theorem dX7_next_90 : decode cX7_next 90 = .ok (.invokevirtual 109, 3) := by decide +kernel
theorem dX7_next_93 : decode cX7_next 93 = .ok (.if_icmp .le 7, 3) := by decide +kernel
theorem dX7_next_96 : decode cX7_next 96 = .ok (.iload_n 3, 1) := by decide +kernel
theorem dX7_next_97 : decode cX7_next 97 = .ok (.goto 4, 3) := by decide +kernel
theorem dX7_next_100 : decode cX7_next 100 = .ok (.iload_n 2, 1) := by decide +kernel
theorem dX7_next_101 : decode cX7_next 101 = .ok (.istore_n 2, 1) := by decide +kernel
theorem dX7_next_102 : decode cX7_next 102 = .ok (.iinc 3 1, 3) := by decide +kernel
theorem dX7_next_105 : decode cX7_next 105 = .ok (.goto (-101), 3) := by decide +kernel
theorem dX7_next_108 : decode cX7_next 108 = .ok (.iload_n 2, 1) := by decide +kernel
theorem dX7_next_109 : decode cX7_next 109 = .ok (.ireturn, 1) := by decide +kernel
theorem dX7_goes_0 : decode cX7_goes 0 = .ok (.aload_n 0, 1) := by decide +kernel
theorem dX7_goes_1 : decode cX7_goes 1 = .ok (.getfield 7, 3) := by decide +kernel
theorem dX7_goes_4 : decode cX7_goes 4 = .ok (.iconst 1, 1) := by decide +kernel
theorem dX7_goes_5 : decode cX7_goes 5 = .ok (.iaload, 1) := by decide +kernel
theorem dX7_goes_6 : decode cX7_goes 6 = .ok (.iload_n 1, 1) := by decide +kernel
theorem dX7_goes_7 : decode cX7_goes 7 = .ok (.if_icmp .eq 76, 3) := by decide +kernel
theorem dX7_goes_10 : decode cX7_goes 10 = .ok (.aload_n 0, 1) := by decide +kernel
theorem dX7_goes_11 : decode cX7_goes 11 = .ok (.invokevirtual 79, 3) := by decide +kernel
theorem dX7_goes_14 : decode cX7_goes 14 = .ok (.pop, 1) := by decide +kernel
theorem dX7_goes_15 : decode cX7_goes 15 = .ok (.iload_n 1, 1) := by decide +kernel
theorem dX7_goes_16 : decode cX7_goes 16 = .ok (.aload_n 0, 1) := by decide +kernel
theorem dX7_goes_17 : decode cX7_goes 17 = .ok (.getfield 7, 3) := by decide +kernel
theorem dX7_goes_20 : decode cX7_goes 20 = .ok (.iconst 1, 1) := by decide +kernel
theorem dX7_goes_21 : decode cX7_goes 21 = .ok (.iaload, 1) := by decide +kernel
theorem dX7_goes_22 : decode cX7_goes 22 = .ok (.isub, 1) := by decide +kernel
theorem dX7_goes_23 : decode cX7_goes 23 = .ok (.bipush 8, 2) := by decide +kernel
theorem dX7_goes_25 : decode cX7_goes 25 = .ok (.iadd, 1) := by decide +kernel
theorem dX7_goes_26 : decode cX7_goes 26 = .ok (.bipush 8, 2) := by decide +kernel
theorem dX7_goes_28 : decode cX7_goes 28 = .ok (.irem, 1) := by decide +kernel
theorem dX7_goes_29 : decode cX7_goes 29 = .ok (.istore_n 2, 1) := by decide +kernel
theorem dX7_goes_30 : decode cX7_goes 30 = .ok (.iload_n 2, 1) := by decide +kernel
theorem dX7_goes_31 : decode cX7_goes 31 = .ok (.iconst 4, 1) := by decide +kernel
theorem dX7_goes_32 : decode cX7_goes 32 = .ok (.if_icmp .gt 7, 3) := by decide +kernel
theorem dX7_goes_35 : decode cX7_goes 35 = .ok (.iload_n 2, 1) := by decide +kernel
theorem dX7_goes_36 : decode cX7_goes 36 = .ok (.goto 7, 3) := by decide +kernel
theorem dX7_goes_39 : decode cX7_goes 39 = .ok (.bipush 8, 2) := by decide +kernel
theorem dX7_goes_41 : decode cX7_goes 41 = .ok (.iload_n 2, 1) := by decide +kernel
theorem dX7_goes_42 : decode cX7_goes 42 = .ok (.isub, 1) := by decide +kernel
theorem dX7_goes_43 : decode cX7_goes 43 = .ok (.istore_n 3, 1) := by decide +kernel
theorem dX7_goes_44 : decode cX7_goes 44 = .ok (.iload_n 3, 1) := by decide +kernel
theorem dX7_goes_45 : decode cX7_goes 45 = .ok (.aload_n 0, 1) := by decide +kernel
theorem dX7_goes_46 : decode cX7_goes 46 = .ok (.invokevirtual 82, 3) := by decide +kernel
theorem dX7_goes_49 : decode cX7_goes 49 = .ok (.if_icmp .le 10, 3) := by decide +kernel
theorem dX7_goes_52 : decode cX7_goes 52 = .ok (.aload_n 0, 1) := by decide +kernel
theorem dX7_goes_53 : decode cX7_goes 53 = .ok (.invokevirtual 82, 3) := by decide +kernel
theorem dX7_goes_56 : decode cX7_goes 56 = .ok (.goto 4, 3) := by decide +kernel
theorem dX7_goes_59 : decode cX7_goes 59 = .ok (.iload_n 3, 1) := by decide +kernel
theorem dX7_goes_60 : decode cX7_goes 60 = .ok (.istore 4, 2) := by decide +kernel
theorem dX7_goes_62 : decode cX7_goes 62 = .ok (.aload_n 0, 1) := by decide +kernel
theorem dX7_goes_63 : decode cX7_goes 63 = .ok (.iload_n 2, 1) := by decide +kernel
theorem dX7_goes_64 : decode cX7_goes 64 = .ok (.iconst 4, 1) := by decide +kernel
theorem dX7_goes_65 : decode cX7_goes 65 = .ok (.if_icmp .gt 8, 3) := by decide +kernel
theorem dX7_goes_68 : decode cX7_goes 68 = .ok (.iload 4, 2) := by decide +kernel
theorem dX7_goes_70 : decode cX7_goes 70 = .ok (.goto 6, 3) := by decide +kernel
theorem dX7_goes_73 : decode cX7_goes 73 = .ok (.iload 4, 2) := by decide +kernel
theorem dX7_goes_75 : decode cX7_goes 75 = .ok (.ineg, 1) := by decide +kernel
theorem dX7_goes_76 : decode cX7_goes 76 = .ok (.invokevirtual 85, 3) := by decide +kernel
theorem dX7_goes_79 : decode cX7_goes 79 = .ok (.pop, 1) := by decide +kernel
theorem dX7_goes_80 : decode cX7_goes 80 = .ok (.goto (-80), 3) := by decide +kernel
theorem dX7_goes_83 : decode cX7_goes 83 = .ok (.return_, 1) := by decide +kernel
theorem dX7_empty_0 : decode cX7_empty 0 = .ok (.iconst (-1), 1) := by decide +kernel
theorem dX7_empty_1 : decode cX7_empty 1 = .ok (.istore_n 2, 1) := by decide +kernel
theorem dX7_empty_2 : decode cX7_empty 2 = .ok (.iconst 3, 1) := by decide +kernel
theorem dX7_empty_3 : decode cX7_empty 3 = .ok (.istore_n 3, 1) := by decide +kernel
theorem dX7_empty_4 : decode cX7_empty 4 = .ok (.iload_n 3, 1) := by decide +kernel
theorem dX7_empty_5 : decode cX7_empty 5 = .ok (.ifCond .lt 31, 3) := by decide +kernel
theorem dX7_empty_8 : decode cX7_empty 8 = .ok (.aload_n 0, 1) := by decide +kernel
theorem dX7_empty_9 : decode cX7_empty 9 = .ok (.getfield 7, 3) := by decide +kernel
theorem dX7_empty_12 : decode cX7_empty 12 = .ok (.bipush 16, 2) := by decide +kernel
theorem dX7_empty_14 : decode cX7_empty 14 = .ok (.iconst 4, 1) := by decide +kernel
theorem dX7_empty_15 : decode cX7_empty 15 = .ok (.iload_n 1, 1) := by decide +kernel
theorem dX7_empty_16 : decode cX7_empty 16 = .ok (.imul, 1) := by decide +kernel
theorem dX7_empty_17 : decode cX7_empty 17 = .ok (.iadd, 1) := by decide +kernel
theorem dX7_empty_18 : decode cX7_empty 18 = .ok (.iload_n 3, 1) := by decide +kernel
theorem dX7_empty_19 : decode cX7_empty 19 = .ok (.iadd, 1) := by decide +kernel
theorem dX7_empty_20 : decode cX7_empty 20 = .ok (.iaload, 1) := by decide +kernel
theorem dX7_empty_21 : decode cX7_empty 21 = .ok (.ifCond .ge 7, 3) := by decide +kernel
theorem dX7_empty_24 : decode cX7_empty 24 = .ok (.iload_n 3, 1) := by decide +kernel
theorem dX7_empty_25 : decode cX7_empty 25 = .ok (.goto 4, 3) := by decide +kernel
theorem dX7_empty_28 : decode cX7_empty 28 = .ok (.iload_n 2, 1) := by decide +kernel
theorem dX7_empty_29 : decode cX7_empty 29 = .ok (.istore_n 2, 1) := by decide +kernel
theorem dX7_empty_30 : decode cX7_empty 30 = .ok (.iinc 3 (-1), 3) := by decide +kernel
theorem dX7_empty_33 : decode cX7_empty 33 = .ok (.goto (-29), 3) := by decide +kernel
theorem dX7_empty_36 : decode cX7_empty 36 = .ok (.iload_n 2, 1) := by decide +kernel
theorem dX7_empty_37 : decode cX7_empty 37 = .ok (.ireturn, 1) := by decide +kernel
theorem dX7_nearest_0 : decode cX7_nearest 0 = .ok (.iconst 0, 1) := by decide +kernel
theorem dX7_nearest_1 : decode cX7_nearest 1 = .ok (.istore_n 2, 1) := by decide +kernel
theorem dX7_nearest_2 : decode cX7_nearest 2 = .ok (.iload_n 2, 1) := by decide +kernel
theorem dX7_nearest_3 : decode cX7_nearest 3 = .ok (.iconst 4, 1) := by decide +kernel
theorem dX7_nearest_4 : decode cX7_nearest 4 = .ok (.if_icmp .gt 49, 3) := by decide +kernel
theorem dX7_nearest_7 : decode cX7_nearest 7 = .ok (.iload_n 1, 1) := by decide +kernel
theorem dX7_nearest_8 : decode cX7_nearest 8 = .ok (.iload_n 2, 1) := by decide +kernel
theorem dX7_nearest_9 : decode cX7_nearest 9 = .ok (.iadd, 1) := by decide +kernel
theorem dX7_nearest_10 : decode cX7_nearest 10 = .ok (.bipush 8, 2) := by decide +kernel
theorem dX7_nearest_12 : decode cX7_nearest 12 = .ok (.irem, 1) := by decide +kernel
theorem dX7_nearest_13 : decode cX7_nearest 13 = .ok (.istore_n 3, 1) := by decide +kernel
theorem dX7_nearest_14 : decode cX7_nearest 14 = .ok (.iload_n 1, 1) := by decide +kernel
theorem dX7_nearest_15 : decode cX7_nearest 15 = .ok (.iload_n 2, 1) := by decide +kernel
theorem dX7_nearest_16 : decode cX7_nearest 16 = .ok (.isub, 1) := by decide +kernel
theorem dX7_nearest_17 : decode cX7_nearest 17 = .ok (.bipush 8, 2) := by decide +kernel
theorem dX7_nearest_19 : decode cX7_nearest 19 = .ok (.iadd, 1) := by decide +kernel
theorem dX7_nearest_20 : decode cX7_nearest 20 = .ok (.bipush 8, 2) := by decide +kernel
theorem dX7_nearest_22 : decode cX7_nearest 22 = .ok (.irem, 1) := by decide +kernel
theorem dX7_nearest_23 : decode cX7_nearest 23 = .ok (.istore 4, 2) := by decide +kernel
theorem dX7_nearest_25 : decode cX7_nearest 25 = .ok (.aload_n 0, 1) := by decide +kernel
theorem dX7_nearest_26 : decode cX7_nearest 26 = .ok (.iload_n 3, 1) := by decide +kernel
theorem dX7_nearest_27 : decode cX7_nearest 27 = .ok (.invokevirtual 112, 3) := by decide +kernel
theorem dX7_nearest_30 : decode cX7_nearest 30 = .ok (.ifCond .lt 5, 3) := by decide +kernel
theorem dX7_nearest_33 : decode cX7_nearest 33 = .ok (.iload_n 3, 1) := by decide +kernel
theorem dX7_nearest_34 : decode cX7_nearest 34 = .ok (.ireturn, 1) := by decide +kernel
theorem dX7_nearest_35 : decode cX7_nearest 35 = .ok (.aload_n 0, 1) := by decide +kernel
theorem dX7_nearest_36 : decode cX7_nearest 36 = .ok (.iload 4, 2) := by decide +kernel
theorem dX7_nearest_38 : decode cX7_nearest 38 = .ok (.invokevirtual 112, 3) := by decide +kernel
theorem dX7_nearest_41 : decode cX7_nearest 41 = .ok (.ifCond .lt 6, 3) := by decide +kernel
theorem dX7_nearest_44 : decode cX7_nearest 44 = .ok (.iload 4, 2) := by decide +kernel
theorem dX7_nearest_46 : decode cX7_nearest 46 = .ok (.ireturn, 1) := by decide +kernel
theorem dX7_nearest_47 : decode cX7_nearest 47 = .ok (.iinc 2 1, 3) := by decide +kernel
theorem dX7_nearest_50 : decode cX7_nearest 50 = .ok (.goto (-48), 3) := by decide +kernel
theorem dX7_nearest_53 : decode cX7_nearest 53 = .ok (.iconst (-1), 1) := by decide +kernel
theorem dX7_nearest_54 : decode cX7_nearest 54 = .ok (.ireturn, 1) := by decide +kernel
theorem dX7_chooses_0 : decode cX7_chooses 0 = .ok (.aload_n 0, 1) := by decide +kernel
theorem dX7_chooses_1 : decode cX7_chooses 1 = .ok (.getfield 7, 3) := by decide +kernel
theorem dX7_chooses_4 : decode cX7_chooses 4 = .ok (.bipush 11, 2) := by decide +kernel
theorem dX7_chooses_6 : decode cX7_chooses 6 = .ok (.iaload, 1) := by decide +kernel
theorem dX7_chooses_7 : decode cX7_chooses 7 = .ok (.ifCond .ge 7, 3) := by decide +kernel
theorem dX7_chooses_10 : decode cX7_chooses 10 = .ok (.iconst 1, 1) := by decide +kernel
theorem dX7_chooses_11 : decode cX7_chooses 11 = .ok (.goto 4, 3) := by decide +kernel
theorem dX7_chooses_14 : decode cX7_chooses 14 = .ok (.iconst 0, 1) := by decide +kernel
theorem dX7_chooses_15 : decode cX7_chooses 15 = .ok (.istore_n 2, 1) := by decide +kernel
theorem dX7_chooses_16 : decode cX7_chooses 16 = .ok (.aload_n 0, 1) := by decide +kernel
theorem dX7_chooses_17 : decode cX7_chooses 17 = .ok (.getfield 7, 3) := by decide +kernel
theorem dX7_chooses_20 : decode cX7_chooses 20 = .ok (.bipush 12, 2) := by decide +kernel
theorem dX7_chooses_22 : decode cX7_chooses 22 = .ok (.iaload, 1) := by decide +kernel
theorem dX7_chooses_23 : decode cX7_chooses 23 = .ok (.ifCond .ge 7, 3) := by decide +kernel
theorem dX7_chooses_26 : decode cX7_chooses 26 = .ok (.iconst 1, 1) := by decide +kernel
theorem dX7_chooses_27 : decode cX7_chooses 27 = .ok (.goto 4, 3) := by decide +kernel
theorem dX7_chooses_30 : decode cX7_chooses 30 = .ok (.iconst 0, 1) := by decide +kernel
theorem dX7_chooses_31 : decode cX7_chooses 31 = .ok (.istore_n 3, 1) := by decide +kernel
theorem dX7_chooses_32 : decode cX7_chooses 32 = .ok (.iload_n 2, 1) := by decide +kernel
theorem dX7_chooses_33 : decode cX7_chooses 33 = .ok (.ifCond .eq 32, 3) := by decide +kernel
theorem dX7_chooses_36 : decode cX7_chooses 36 = .ok (.iload_n 3, 1) := by decide +kernel
theorem dX7_chooses_37 : decode cX7_chooses 37 = .ok (.ifCond .eq 28, 3) := by decide +kernel
theorem dX7_chooses_40 : decode cX7_chooses 40 = .ok (.iconst 1, 1) := by decide +kernel
theorem dX7_chooses_41 : decode cX7_chooses 41 = .ok (.invokestatic 88, 3) := by decide +kernel
theorem dX7_chooses_44 : decode cX7_chooses 44 = .ok (.iload_n 1, 1) := by decide +kernel
theorem dX7_chooses_45 : decode cX7_chooses 45 = .ok (.invokestatic 103, 3) := by decide +kernel
theorem dX7_chooses_48 : decode cX7_chooses 48 = .ok (.iconst 0, 1) := by decide +kernel
theorem dX7_chooses_49 : decode cX7_chooses 49 = .ok (.invokestatic 88, 3) := by decide +kernel
theorem dX7_chooses_52 : decode cX7_chooses 52 = .ok (.iload_n 1, 1) := by decide +kernel
theorem dX7_chooses_53 : decode cX7_chooses 53 = .ok (.invokestatic 103, 3) := by decide +kernel
theorem dX7_chooses_56 : decode cX7_chooses 56 = .ok (.if_icmp .ge 7, 3) := by decide +kernel
theorem dX7_chooses_59 : decode cX7_chooses 59 = .ok (.iconst 1, 1) := by decide +kernel
theorem dX7_chooses_60 : decode cX7_chooses 60 = .ok (.goto 4, 3) := by decide +kernel
theorem dX7_chooses_63 : decode cX7_chooses 63 = .ok (.iconst 0, 1) := by decide +kernel
theorem dX7_chooses_64 : decode cX7_chooses 64 = .ok (.ireturn, 1) := by decide +kernel
theorem dX7_chooses_65 : decode cX7_chooses 65 = .ok (.iload_n 2, 1) := by decide +kernel
theorem dX7_chooses_66 : decode cX7_chooses 66 = .ok (.ifCond .eq 7, 3) := by decide +kernel
theorem dX7_chooses_69 : decode cX7_chooses 69 = .ok (.iconst 0, 1) := by decide +kernel
theorem dX7_chooses_70 : decode cX7_chooses 70 = .ok (.goto 33, 3) := by decide +kernel
theorem dX7_chooses_73 : decode cX7_chooses 73 = .ok (.iload_n 3, 1) := by decide +kernel
theorem dX7_chooses_74 : decode cX7_chooses 74 = .ok (.ifCond .eq 7, 3) := by decide +kernel
theorem dX7_chooses_77 : decode cX7_chooses 77 = .ok (.iconst 1, 1) := by decide +kernel
theorem dX7_chooses_78 : decode cX7_chooses 78 = .ok (.goto 25, 3) := by decide +kernel
theorem dX7_chooses_81 : decode cX7_chooses 81 = .ok (.aload_n 0, 1) := by decide +kernel
theorem dX7_chooses_82 : decode cX7_chooses 82 = .ok (.getfield 7, 3) := by decide +kernel
theorem dX7_chooses_85 : decode cX7_chooses 85 = .ok (.bipush 13, 2) := by decide +kernel
theorem dX7_chooses_87 : decode cX7_chooses 87 = .ok (.iaload, 1) := by decide +kernel
theorem dX7_chooses_88 : decode cX7_chooses 88 = .ok (.aload_n 0, 1) := by decide +kernel
theorem dX7_chooses_89 : decode cX7_chooses 89 = .ok (.getfield 7, 3) := by decide +kernel
theorem dX7_chooses_92 : decode cX7_chooses 92 = .ok (.bipush 14, 2) := by decide +kernel
theorem dX7_chooses_94 : decode cX7_chooses 94 = .ok (.iaload, 1) := by decide +kernel
theorem dX7_chooses_95 : decode cX7_chooses 95 = .ok (.if_icmp .ge 7, 3) := by decide +kernel
theorem dX7_chooses_98 : decode cX7_chooses 98 = .ok (.iconst 0, 1) := by decide +kernel
theorem dX7_chooses_99 : decode cX7_chooses 99 = .ok (.goto 4, 3) := by decide +kernel
theorem dX7_chooses_102 : decode cX7_chooses 102 = .ok (.iconst 1, 1) := by decide +kernel
theorem dX7_chooses_103 : decode cX7_chooses 103 = .ok (.ireturn, 1) := by decide +kernel
theorem dX7_servesBy_0 : decode cX7_servesBy 0 = .ok (.iload_n 1, 1) := by decide +kernel
theorem dX7_servesBy_1 : decode cX7_servesBy 1 = .ok (.iconst 0, 1) := by decide +kernel
theorem dX7_servesBy_2 : decode cX7_servesBy 2 = .ok (.iconst 3, 1) := by decide +kernel
theorem dX7_servesBy_3 : decode cX7_servesBy 3 = .ok (.invokestatic 26, 3) := by decide +kernel
theorem dX7_servesBy_6 : decode cX7_servesBy 6 = .ok (.ifCond .ne 6, 3) := by decide +kernel
theorem dX7_servesBy_9 : decode cX7_servesBy 9 = .ok (.ldc 30, 2) := by decide +kernel
theorem dX7_servesBy_11 : decode cX7_servesBy 11 = .ok (.ireturn, 1) := by decide +kernel
theorem dX7_servesBy_12 : decode cX7_servesBy 12 = .ok (.aload_n 0, 1) := by decide +kernel
theorem dX7_servesBy_13 : decode cX7_servesBy 13 = .ok (.iload_n 1, 1) := by decide +kernel
theorem dX7_servesBy_14 : decode cX7_servesBy 14 = .ok (.invokevirtual 115, 3) := by decide +kernel
theorem dX7_servesBy_17 : decode cX7_servesBy 17 = .ok (.istore_n 2, 1) := by decide +kernel
theorem dX7_servesBy_18 : decode cX7_servesBy 18 = .ok (.aload_n 0, 1) := by decide +kernel
theorem dX7_servesBy_19 : decode cX7_servesBy 19 = .ok (.getfield 7, 3) := by decide +kernel
theorem dX7_servesBy_22 : decode cX7_servesBy 22 = .ok (.iconst 2, 1) := by decide +kernel
theorem dX7_servesBy_23 : decode cX7_servesBy 23 = .ok (.iaload, 1) := by decide +kernel
theorem dX7_servesBy_24 : decode cX7_servesBy 24 = .ok (.ifCond .gt 7, 3) := by decide +kernel
theorem dX7_servesBy_27 : decode cX7_servesBy 27 = .ok (.iload_n 2, 1) := by decide +kernel
theorem dX7_servesBy_28 : decode cX7_servesBy 28 = .ok (.ifCond .ge 6, 3) := by decide +kernel
theorem dX7_servesBy_31 : decode cX7_servesBy 31 = .ok (.ldc 35, 2) := by decide +kernel
theorem dX7_servesBy_33 : decode cX7_servesBy 33 = .ok (.ireturn, 1) := by decide +kernel
theorem dX7_servesBy_34 : decode cX7_servesBy 34 = .ok (.aload_n 0, 1) := by decide +kernel
theorem dX7_servesBy_35 : decode cX7_servesBy 35 = .ok (.getfield 7, 3) := by decide +kernel
theorem dX7_servesBy_38 : decode cX7_servesBy 38 = .ok (.sipush 168, 3) := by decide +kernel
theorem dX7_servesBy_41 : decode cX7_servesBy 41 = .ok (.aload_n 0, 1) := by decide +kernel
theorem dX7_servesBy_42 : decode cX7_servesBy 42 = .ok (.getfield 7, 3) := by decide +kernel
theorem dX7_servesBy_45 : decode cX7_servesBy 45 = .ok (.sipush 228, 3) := by decide +kernel
theorem dX7_servesBy_48 : decode cX7_servesBy 48 = .ok (.iconst 3, 1) := by decide +kernel
theorem dX7_servesBy_49 : decode cX7_servesBy 49 = .ok (.iload_n 2, 1) := by decide +kernel
theorem dX7_servesBy_50 : decode cX7_servesBy 50 = .ok (.imul, 1) := by decide +kernel
theorem dX7_servesBy_51 : decode cX7_servesBy 51 = .ok (.iadd, 1) := by decide +kernel
theorem dX7_servesBy_52 : decode cX7_servesBy 52 = .ok (.iaload, 1) := by decide +kernel
theorem dX7_servesBy_53 : decode cX7_servesBy 53 = .ok (.iadd, 1) := by decide +kernel
theorem dX7_servesBy_54 : decode cX7_servesBy 54 = .ok (.iaload, 1) := by decide +kernel
theorem dX7_servesBy_55 : decode cX7_servesBy 55 = .ok (.istore_n 3, 1) := by decide +kernel
theorem dX7_servesBy_56 : decode cX7_servesBy 56 = .ok (.aload_n 0, 1) := by decide +kernel
theorem dX7_servesBy_57 : decode cX7_servesBy 57 = .ok (.iload_n 3, 1) := by decide +kernel
theorem dX7_servesBy_58 : decode cX7_servesBy 58 = .ok (.invokevirtual 52, 3) := by decide +kernel
theorem dX7_servesBy_61 : decode cX7_servesBy 61 = .ok (.istore 4, 2) := by decide +kernel
theorem dX7_servesBy_63 : decode cX7_servesBy 63 = .ok (.aload_n 0, 1) := by decide +kernel
theorem dX7_servesBy_64 : decode cX7_servesBy 64 = .ok (.iload 4, 2) := by decide +kernel
theorem dX7_servesBy_66 : decode cX7_servesBy 66 = .ok (.iconst 4, 1) := by decide +kernel
theorem dX7_servesBy_67 : decode cX7_servesBy 67 = .ok (.idiv, 1) := by decide +kernel
theorem dX7_servesBy_68 : decode cX7_servesBy 68 = .ok (.invokevirtual 118, 3) := by decide +kernel
theorem dX7_servesBy_71 : decode cX7_servesBy 71 = .ok (.istore 5, 2) := by decide +kernel
theorem dX7_servesBy_73 : decode cX7_servesBy 73 = .ok (.aload_n 0, 1) := by decide +kernel
theorem dX7_servesBy_74 : decode cX7_servesBy 74 = .ok (.iload 5, 2) := by decide +kernel
theorem dX7_servesBy_76 : decode cX7_servesBy 76 = .ok (.invokestatic 88, 3) := by decide +kernel
theorem dX7_servesBy_79 : decode cX7_servesBy 79 = .ok (.invokevirtual 121, 3) := by decide +kernel
theorem dX7_servesBy_82 : decode cX7_servesBy 82 = .ok (.istore 6, 2) := by decide +kernel
theorem dX7_servesBy_84 : decode cX7_servesBy 84 = .ok (.aload_n 0, 1) := by decide +kernel
theorem dX7_servesBy_85 : decode cX7_servesBy 85 = .ok (.getfield 7, 3) := by decide +kernel
theorem dX7_servesBy_88 : decode cX7_servesBy 88 = .ok (.bipush 11, 2) := by decide +kernel
theorem dX7_servesBy_90 : decode cX7_servesBy 90 = .ok (.iload 5, 2) := by decide +kernel
theorem dX7_servesBy_92 : decode cX7_servesBy 92 = .ok (.iadd, 1) := by decide +kernel
theorem dX7_servesBy_93 : decode cX7_servesBy 93 = .ok (.iaload, 1) := by decide +kernel
theorem dX7_servesBy_94 : decode cX7_servesBy 94 = .ok (.ifCond .lt 11, 3) := by decide +kernel
theorem dX7_servesBy_97 : decode cX7_servesBy 97 = .ok (.iload 6, 2) := by decide +kernel
theorem dX7_servesBy_99 : decode cX7_servesBy 99 = .ok (.ifCond .ge 6, 3) := by decide +kernel
theorem dX7_servesBy_102 : decode cX7_servesBy 102 = .ok (.ldc 35, 2) := by decide +kernel
theorem dX7_servesBy_104 : decode cX7_servesBy 104 = .ok (.ireturn, 1) := by decide +kernel
theorem dX7_servesBy_105 : decode cX7_servesBy 105 = .ok (.aload_n 0, 1) := by decide +kernel
theorem dX7_servesBy_106 : decode cX7_servesBy 106 = .ok (.iload 5, 2) := by decide +kernel
theorem dX7_servesBy_108 : decode cX7_servesBy 108 = .ok (.putfield 124, 3) := by decide +kernel
theorem dX7_servesBy_111 : decode cX7_servesBy 111 = .ok (.aload_n 0, 1) := by decide +kernel
theorem dX7_servesBy_112 : decode cX7_servesBy 112 = .ok (.iload_n 3, 1) := by decide +kernel
theorem dX7_servesBy_113 : decode cX7_servesBy 113 = .ok (.putfield 127, 3) := by decide +kernel
theorem dX7_servesBy_116 : decode cX7_servesBy 116 = .ok (.aload_n 0, 1) := by decide +kernel
theorem dX7_servesBy_117 : decode cX7_servesBy 117 = .ok (.getfield 7, 3) := by decide +kernel
theorem dX7_servesBy_120 : decode cX7_servesBy 120 = .ok (.bipush 11, 2) := by decide +kernel
theorem dX7_servesBy_122 : decode cX7_servesBy 122 = .ok (.iload 5, 2) := by decide +kernel
theorem dX7_servesBy_124 : decode cX7_servesBy 124 = .ok (.iadd, 1) := by decide +kernel
theorem dX7_servesBy_125 : decode cX7_servesBy 125 = .ok (.iaload, 1) := by decide +kernel
theorem dX7_servesBy_126 : decode cX7_servesBy 126 = .ok (.ifCond .lt 36, 3) := by decide +kernel
theorem dX7_servesBy_129 : decode cX7_servesBy 129 = .ok (.aload_n 0, 1) := by decide +kernel
theorem dX7_servesBy_130 : decode cX7_servesBy 130 = .ok (.iload 5, 2) := by decide +kernel
theorem dX7_servesBy_132 : decode cX7_servesBy 132 = .ok (.invokestatic 88, 3) := by decide +kernel
theorem dX7_servesBy_135 : decode cX7_servesBy 135 = .ok (.invokevirtual 130, 3) := by decide +kernel
theorem dX7_servesBy_138 : decode cX7_servesBy 138 = .ok (.aload_n 0, 1) := by decide +kernel
theorem dX7_servesBy_139 : decode cX7_servesBy 139 = .ok (.iload 5, 2) := by decide +kernel
theorem dX7_servesBy_141 : decode cX7_servesBy 141 = .ok (.invokevirtual 97, 3) := by decide +kernel
theorem dX7_servesBy_144 : decode cX7_servesBy 144 = .ok (.pop, 1) := by decide +kernel
theorem dX7_servesBy_145 : decode cX7_servesBy 145 = .ok (.aload_n 0, 1) := by decide +kernel
theorem dX7_servesBy_146 : decode cX7_servesBy 146 = .ok (.iload 6, 2) := by decide +kernel
theorem dX7_servesBy_148 : decode cX7_servesBy 148 = .ok (.invokevirtual 130, 3) := by decide +kernel
theorem dX7_servesBy_151 : decode cX7_servesBy 151 = .ok (.aload_n 0, 1) := by decide +kernel
theorem dX7_servesBy_152 : decode cX7_servesBy 152 = .ok (.aload_n 0, 1) := by decide +kernel
theorem dX7_servesBy_153 : decode cX7_servesBy 153 = .ok (.iload 6, 2) := by decide +kernel
theorem dX7_servesBy_155 : decode cX7_servesBy 155 = .ok (.invokevirtual 112, 3) := by decide +kernel
theorem dX7_servesBy_158 : decode cX7_servesBy 158 = .ok (.invokevirtual 76, 3) := by decide +kernel
theorem dX7_servesBy_161 : decode cX7_servesBy 161 = .ok (.pop, 1) := by decide +kernel
theorem dX7_servesBy_162 : decode cX7_servesBy 162 = .ok (.aload_n 0, 1) := by decide +kernel
theorem dX7_servesBy_163 : decode cX7_servesBy 163 = .ok (.iload 4, 2) := by decide +kernel
theorem dX7_servesBy_165 : decode cX7_servesBy 165 = .ok (.iconst 4, 1) := by decide +kernel
theorem dX7_servesBy_166 : decode cX7_servesBy 166 = .ok (.idiv, 1) := by decide +kernel
theorem dX7_servesBy_167 : decode cX7_servesBy 167 = .ok (.invokevirtual 130, 3) := by decide +kernel
theorem dX7_servesBy_170 : decode cX7_servesBy 170 = .ok (.aload_n 0, 1) := by decide +kernel
theorem dX7_servesBy_171 : decode cX7_servesBy 171 = .ok (.iload 4, 2) := by decide +kernel
theorem dX7_servesBy_173 : decode cX7_servesBy 173 = .ok (.iconst 4, 1) := by decide +kernel
theorem dX7_servesBy_174 : decode cX7_servesBy 174 = .ok (.irem, 1) := by decide +kernel
theorem dX7_servesBy_175 : decode cX7_servesBy 175 = .ok (.invokevirtual 70, 3) := by decide +kernel
theorem dX7_servesBy_178 : decode cX7_servesBy 178 = .ok (.pop, 1) := by decide +kernel
theorem dX7_servesBy_179 : decode cX7_servesBy 179 = .ok (.aload_n 0, 1) := by decide +kernel
theorem dX7_servesBy_180 : decode cX7_servesBy 180 = .ok (.iload 5, 2) := by decide +kernel
theorem dX7_servesBy_182 : decode cX7_servesBy 182 = .ok (.invokestatic 88, 3) := by decide +kernel
theorem dX7_servesBy_185 : decode cX7_servesBy 185 = .ok (.invokevirtual 130, 3) := by decide +kernel
theorem dX7_servesBy_188 : decode cX7_servesBy 188 = .ok (.aload_n 0, 1) := by decide +kernel
theorem dX7_servesBy_189 : decode cX7_servesBy 189 = .ok (.iload 5, 2) := by decide +kernel
theorem dX7_servesBy_191 : decode cX7_servesBy 191 = .ok (.invokevirtual 94, 3) := by decide +kernel
theorem dX7_servesBy_194 : decode cX7_servesBy 194 = .ok (.ireturn, 1) := by decide +kernel
theorem dX7_serve_0 : decode cX7_serve 0 = .ok (.aload_n 0, 1) := by decide +kernel
theorem dX7_serve_1 : decode cX7_serve 1 = .ok (.invokevirtual 37, 3) := by decide +kernel
theorem dX7_serve_4 : decode cX7_serve 4 = .ok (.aload_n 0, 1) := by decide +kernel
theorem dX7_serve_5 : decode cX7_serve 5 = .ok (.aload_n 0, 1) := by decide +kernel
theorem dX7_serve_6 : decode cX7_serve 6 = .ok (.iload_n 1, 1) := by decide +kernel
theorem dX7_serve_7 : decode cX7_serve 7 = .ok (.invokevirtual 133, 3) := by decide +kernel
theorem dX7_serve_10 : decode cX7_serve 10 = .ok (.invokevirtual 40, 3) := by decide +kernel
theorem dX7_serve_13 : decode cX7_serve 13 = .ok (.ireturn, 1) := by decide +kernel
theorem dX7_whereOf_0 : decode cX7_whereOf 0 = .ok (.aload_n 0, 1) := by decide +kernel
theorem dX7_whereOf_1 : decode cX7_whereOf 1 = .ok (.iload_n 1, 1) := by decide +kernel
theorem dX7_whereOf_2 : decode cX7_whereOf 2 = .ok (.iconst 2, 1) := by decide +kernel
theorem dX7_whereOf_3 : decode cX7_whereOf 3 = .ok (.invokevirtual 44, 3) := by decide +kernel
theorem dX7_whereOf_6 : decode cX7_whereOf 6 = .ok (.istore_n 2, 1) := by decide +kernel
theorem dX7_whereOf_7 : decode cX7_whereOf 7 = .ok (.iload_n 2, 1) := by decide +kernel
theorem dX7_whereOf_8 : decode cX7_whereOf 8 = .ok (.ifCond .ne 22, 3) := by decide +kernel
theorem dX7_whereOf_11 : decode cX7_whereOf 11 = .ok (.aload_n 0, 1) := by decide +kernel
theorem dX7_whereOf_12 : decode cX7_whereOf 12 = .ok (.iload_n 1, 1) := by decide +kernel
theorem dX7_whereOf_13 : decode cX7_whereOf 13 = .ok (.invokevirtual 52, 3) := by decide +kernel
theorem dX7_whereOf_16 : decode cX7_whereOf 16 = .ok (.iconst 4, 1) := by decide +kernel
theorem dX7_whereOf_17 : decode cX7_whereOf 17 = .ok (.idiv, 1) := by decide +kernel
theorem dX7_whereOf_18 : decode cX7_whereOf 18 = .ok (.bipush 10, 2) := by decide +kernel
theorem dX7_whereOf_20 : decode cX7_whereOf 20 = .ok (.imul, 1) := by decide +kernel
theorem dX7_whereOf_21 : decode cX7_whereOf 21 = .ok (.aload_n 0, 1) := by decide +kernel
theorem dX7_whereOf_22 : decode cX7_whereOf 22 = .ok (.iload_n 1, 1) := by decide +kernel
theorem dX7_whereOf_23 : decode cX7_whereOf 23 = .ok (.invokevirtual 52, 3) := by decide +kernel
theorem dX7_whereOf_26 : decode cX7_whereOf 26 = .ok (.iconst 4, 1) := by decide +kernel
theorem dX7_whereOf_27 : decode cX7_whereOf 27 = .ok (.irem, 1) := by decide +kernel
theorem dX7_whereOf_28 : decode cX7_whereOf 28 = .ok (.iadd, 1) := by decide +kernel
theorem dX7_whereOf_29 : decode cX7_whereOf 29 = .ok (.ireturn, 1) := by decide +kernel
theorem dX7_whereOf_30 : decode cX7_whereOf 30 = .ok (.iload_n 2, 1) := by decide +kernel
theorem dX7_whereOf_31 : decode cX7_whereOf 31 = .ok (.iconst 2, 1) := by decide +kernel
theorem dX7_whereOf_32 : decode cX7_whereOf 32 = .ok (.if_icmp .ne 20, 3) := by decide +kernel
theorem dX7_whereOf_35 : decode cX7_whereOf 35 = .ok (.aload_n 0, 1) := by decide +kernel
theorem dX7_whereOf_36 : decode cX7_whereOf 36 = .ok (.getfield 7, 3) := by decide +kernel
theorem dX7_whereOf_39 : decode cX7_whereOf 39 = .ok (.bipush 11, 2) := by decide +kernel
theorem dX7_whereOf_41 : decode cX7_whereOf 41 = .ok (.iaload, 1) := by decide +kernel
theorem dX7_whereOf_42 : decode cX7_whereOf 42 = .ok (.iload_n 1, 1) := by decide +kernel
theorem dX7_whereOf_43 : decode cX7_whereOf 43 = .ok (.if_icmp .ne 7, 3) := by decide +kernel
theorem dX7_whereOf_46 : decode cX7_whereOf 46 = .ok (.iconst 0, 1) := by decide +kernel
theorem dX7_whereOf_47 : decode cX7_whereOf 47 = .ok (.goto 4, 3) := by decide +kernel
theorem dX7_whereOf_50 : decode cX7_whereOf 50 = .ok (.iconst 1, 1) := by decide +kernel
theorem dX7_whereOf_51 : decode cX7_whereOf 51 = .ok (.ireturn, 1) := by decide +kernel
theorem dX7_whereOf_52 : decode cX7_whereOf 52 = .ok (.ldc 136, 2) := by decide +kernel
theorem dX7_whereOf_54 : decode cX7_whereOf 54 = .ok (.istore_n 3, 1) := by decide +kernel
theorem dX7_whereOf_55 : decode cX7_whereOf 55 = .ok (.iconst 0, 1) := by decide +kernel
theorem dX7_whereOf_56 : decode cX7_whereOf 56 = .ok (.istore 4, 2) := by decide +kernel
theorem dX7_whereOf_58 : decode cX7_whereOf 58 = .ok (.iload 4, 2) := by decide +kernel
theorem dX7_whereOf_60 : decode cX7_whereOf 60 = .ok (.aload_n 0, 1) := by decide +kernel
theorem dX7_whereOf_61 : decode cX7_whereOf 61 = .ok (.getfield 7, 3) := by decide +kernel
theorem dX7_whereOf_64 : decode cX7_whereOf 64 = .ok (.iconst 2, 1) := by decide +kernel
theorem dX7_whereOf_65 : decode cX7_whereOf 65 = .ok (.iaload, 1) := by decide +kernel
theorem dX7_whereOf_66 : decode cX7_whereOf 66 = .ok (.if_icmp .ge 29, 3) := by decide +kernel
theorem dX7_whereOf_69 : decode cX7_whereOf 69 = .ok (.aload_n 0, 1) := by decide +kernel
theorem dX7_whereOf_70 : decode cX7_whereOf 70 = .ok (.getfield 7, 3) := by decide +kernel
theorem dX7_whereOf_73 : decode cX7_whereOf 73 = .ok (.iconst 3, 1) := by decide +kernel
theorem dX7_whereOf_74 : decode cX7_whereOf 74 = .ok (.iload 4, 2) := by decide +kernel
theorem dX7_whereOf_76 : decode cX7_whereOf 76 = .ok (.iadd, 1) := by decide +kernel
theorem dX7_whereOf_77 : decode cX7_whereOf 77 = .ok (.iaload, 1) := by decide +kernel
theorem dX7_whereOf_78 : decode cX7_whereOf 78 = .ok (.iload_n 1, 1) := by decide +kernel
theorem dX7_whereOf_79 : decode cX7_whereOf 79 = .ok (.if_icmp .ne 8, 3) := by decide +kernel
theorem dX7_whereOf_82 : decode cX7_whereOf 82 = .ok (.iload 4, 2) := by decide +kernel
theorem dX7_whereOf_84 : decode cX7_whereOf 84 = .ok (.goto 4, 3) := by decide +kernel
theorem dX7_whereOf_87 : decode cX7_whereOf 87 = .ok (.iload_n 3, 1) := by decide +kernel
theorem dX7_whereOf_88 : decode cX7_whereOf 88 = .ok (.istore_n 3, 1) := by decide +kernel
theorem dX7_whereOf_89 : decode cX7_whereOf 89 = .ok (.iinc 4 1, 3) := by decide +kernel
theorem dX7_whereOf_92 : decode cX7_whereOf 92 = .ok (.goto (-34), 3) := by decide +kernel
theorem dX7_whereOf_95 : decode cX7_whereOf 95 = .ok (.iload_n 3, 1) := by decide +kernel
theorem dX7_whereOf_96 : decode cX7_whereOf 96 = .ok (.ireturn, 1) := by decide +kernel
theorem dX7_cartridgeOf_0 : decode cX7_cartridgeOf 0 = .ok (.aload_n 0, 1) := by decide +kernel
theorem dX7_cartridgeOf_1 : decode cX7_cartridgeOf 1 = .ok (.iload_n 1, 1) := by decide +kernel
theorem dX7_cartridgeOf_2 : decode cX7_cartridgeOf 2 = .ok (.invokevirtual 48, 3) := by decide +kernel
theorem dX7_cartridgeOf_5 : decode cX7_cartridgeOf 5 = .ok (.ifCond .eq 13, 3) := by decide +kernel
theorem dX7_cartridgeOf_8 : decode cX7_cartridgeOf 8 = .ok (.iload_n 2, 1) := by decide +kernel
theorem dX7_cartridgeOf_9 : decode cX7_cartridgeOf 9 = .ok (.iconst 0, 1) := by decide +kernel
theorem dX7_cartridgeOf_10 : decode cX7_cartridgeOf 10 = .ok (.bipush 6, 2) := by decide +kernel
theorem dX7_cartridgeOf_12 : decode cX7_cartridgeOf 12 = .ok (.invokestatic 26, 3) := by decide +kernel
theorem dX7_cartridgeOf_15 : decode cX7_cartridgeOf 15 = .ok (.ifCond .ne 6, 3) := by decide +kernel
theorem dX7_cartridgeOf_18 : decode cX7_cartridgeOf 18 = .ok (.ldc 30, 2) := by decide +kernel
theorem dX7_cartridgeOf_20 : decode cX7_cartridgeOf 20 = .ok (.ireturn, 1) := by decide +kernel
theorem dX7_cartridgeOf_21 : decode cX7_cartridgeOf 21 = .ok (.iload_n 2, 1) := by decide +kernel
theorem dX7_cartridgeOf_22 : decode cX7_cartridgeOf 22 = .ok (.tableswitch 55 3 6 #[30, 36, 42, 48], 30) := by decide +kernel
theorem dX7_cartridgeOf_52 : decode cX7_cartridgeOf 52 = .ok (.aload_n 0, 1) := by decide +kernel
theorem dX7_cartridgeOf_53 : decode cX7_cartridgeOf 53 = .ok (.iload_n 1, 1) := by decide +kernel
theorem dX7_cartridgeOf_54 : decode cX7_cartridgeOf 54 = .ok (.invokevirtual 137, 3) := by decide +kernel
theorem dX7_cartridgeOf_57 : decode cX7_cartridgeOf 57 = .ok (.ireturn, 1) := by decide +kernel
theorem dX7_cartridgeOf_58 : decode cX7_cartridgeOf 58 = .ok (.aload_n 0, 1) := by decide +kernel
theorem dX7_cartridgeOf_59 : decode cX7_cartridgeOf 59 = .ok (.iload_n 1, 1) := by decide +kernel
theorem dX7_cartridgeOf_60 : decode cX7_cartridgeOf 60 = .ok (.invokevirtual 100, 3) := by decide +kernel
theorem dX7_cartridgeOf_63 : decode cX7_cartridgeOf 63 = .ok (.ireturn, 1) := by decide +kernel
theorem dX7_cartridgeOf_64 : decode cX7_cartridgeOf 64 = .ok (.aload_n 0, 1) := by decide +kernel
theorem dX7_cartridgeOf_65 : decode cX7_cartridgeOf 65 = .ok (.iload_n 1, 1) := by decide +kernel
theorem dX7_cartridgeOf_66 : decode cX7_cartridgeOf 66 = .ok (.invokevirtual 106, 3) := by decide +kernel
theorem dX7_cartridgeOf_69 : decode cX7_cartridgeOf 69 = .ok (.ireturn, 1) := by decide +kernel
theorem dX7_cartridgeOf_70 : decode cX7_cartridgeOf 70 = .ok (.aload_n 0, 1) := by decide +kernel
theorem dX7_cartridgeOf_71 : decode cX7_cartridgeOf 71 = .ok (.iload_n 1, 1) := by decide +kernel
theorem dX7_cartridgeOf_72 : decode cX7_cartridgeOf 72 = .ok (.iconst 3, 1) := by decide +kernel
theorem dX7_cartridgeOf_73 : decode cX7_cartridgeOf 73 = .ok (.invokevirtual 44, 3) := by decide +kernel
theorem dX7_cartridgeOf_76 : decode cX7_cartridgeOf 76 = .ok (.ireturn, 1) := by decide +kernel
theorem dX7_cartridgeOf_77 : decode cX7_cartridgeOf 77 = .ok (.aload_n 0, 1) := by decide +kernel
theorem dX7_cartridgeOf_78 : decode cX7_cartridgeOf 78 = .ok (.iload_n 1, 1) := by decide +kernel
theorem dX7_cartridgeOf_79 : decode cX7_cartridgeOf 79 = .ok (.iload_n 2, 1) := by decide +kernel
theorem dX7_cartridgeOf_80 : decode cX7_cartridgeOf 80 = .ok (.invokevirtual 44, 3) := by decide +kernel
theorem dX7_cartridgeOf_83 : decode cX7_cartridgeOf 83 = .ok (.ireturn, 1) := by decide +kernel
theorem dX7_shelfOf_0 : decode cX7_shelfOf 0 = .ok (.iload_n 1, 1) := by decide +kernel
theorem dX7_shelfOf_1 : decode cX7_shelfOf 1 = .ok (.iconst 0, 1) := by decide +kernel
theorem dX7_shelfOf_2 : decode cX7_shelfOf 2 = .ok (.bipush 7, 2) := by decide +kernel
theorem dX7_shelfOf_4 : decode cX7_shelfOf 4 = .ok (.invokestatic 26, 3) := by decide +kernel
theorem dX7_shelfOf_7 : decode cX7_shelfOf 7 = .ok (.ifCond .eq 12, 3) := by decide +kernel
theorem dX7_shelfOf_10 : decode cX7_shelfOf 10 = .ok (.iload_n 2, 1) := by decide +kernel
theorem dX7_shelfOf_11 : decode cX7_shelfOf 11 = .ok (.iconst 0, 1) := by decide +kernel
theorem dX7_shelfOf_12 : decode cX7_shelfOf 12 = .ok (.iconst 3, 1) := by decide +kernel
theorem dX7_shelfOf_13 : decode cX7_shelfOf 13 = .ok (.invokestatic 26, 3) := by decide +kernel
theorem dX7_shelfOf_16 : decode cX7_shelfOf 16 = .ok (.ifCond .ne 6, 3) := by decide +kernel
theorem dX7_shelfOf_19 : decode cX7_shelfOf 19 = .ok (.ldc 30, 2) := by decide +kernel
theorem dX7_shelfOf_21 : decode cX7_shelfOf 21 = .ok (.ireturn, 1) := by decide +kernel
theorem dX7_shelfOf_22 : decode cX7_shelfOf 22 = .ok (.aload_n 0, 1) := by decide +kernel
theorem dX7_shelfOf_23 : decode cX7_shelfOf 23 = .ok (.getfield 7, 3) := by decide +kernel
theorem dX7_shelfOf_26 : decode cX7_shelfOf 26 = .ok (.bipush 16, 2) := by decide +kernel
theorem dX7_shelfOf_28 : decode cX7_shelfOf 28 = .ok (.iconst 4, 1) := by decide +kernel
theorem dX7_shelfOf_29 : decode cX7_shelfOf 29 = .ok (.iload_n 1, 1) := by decide +kernel
theorem dX7_shelfOf_30 : decode cX7_shelfOf 30 = .ok (.imul, 1) := by decide +kernel
theorem dX7_shelfOf_31 : decode cX7_shelfOf 31 = .ok (.iadd, 1) := by decide +kernel
theorem dX7_shelfOf_32 : decode cX7_shelfOf 32 = .ok (.iload_n 2, 1) := by decide +kernel
theorem dX7_shelfOf_33 : decode cX7_shelfOf 33 = .ok (.iadd, 1) := by decide +kernel
theorem dX7_shelfOf_34 : decode cX7_shelfOf 34 = .ok (.iaload, 1) := by decide +kernel
theorem dX7_shelfOf_35 : decode cX7_shelfOf 35 = .ok (.istore_n 3, 1) := by decide +kernel
theorem dX7_shelfOf_36 : decode cX7_shelfOf 36 = .ok (.iload_n 3, 1) := by decide +kernel
theorem dX7_shelfOf_37 : decode cX7_shelfOf 37 = .ok (.ifCond .ge 8, 3) := by decide +kernel
theorem dX7_shelfOf_40 : decode cX7_shelfOf 40 = .ok (.ldc 136, 2) := by decide +kernel
theorem dX7_shelfOf_42 : decode cX7_shelfOf 42 = .ok (.goto 4, 3) := by decide +kernel
theorem dX7_shelfOf_45 : decode cX7_shelfOf 45 = .ok (.iload_n 3, 1) := by decide +kernel
theorem dX7_shelfOf_46 : decode cX7_shelfOf 46 = .ok (.ireturn, 1) := by decide +kernel
theorem dX7_holder_0 : decode cX7_holder 0 = .ok (.iload_n 1, 1) := by decide +kernel
theorem dX7_holder_1 : decode cX7_holder 1 = .ok (.iconst 0, 1) := by decide +kernel
theorem dX7_holder_2 : decode cX7_holder 2 = .ok (.bipush 59, 2) := by decide +kernel
theorem dX7_holder_4 : decode cX7_holder 4 = .ok (.invokestatic 26, 3) := by decide +kernel
theorem dX7_holder_7 : decode cX7_holder 7 = .ok (.ifCond .ne 6, 3) := by decide +kernel
theorem dX7_holder_10 : decode cX7_holder 10 = .ok (.ldc 30, 2) := by decide +kernel
theorem dX7_holder_12 : decode cX7_holder 12 = .ok (.ireturn, 1) := by decide +kernel
theorem dX7_holder_13 : decode cX7_holder 13 = .ok (.aload_n 0, 1) := by decide +kernel
theorem dX7_holder_14 : decode cX7_holder 14 = .ok (.getfield 7, 3) := by decide +kernel
theorem dX7_holder_17 : decode cX7_holder 17 = .ok (.sipush 168, 3) := by decide +kernel
theorem dX7_holder_20 : decode cX7_holder 20 = .ok (.iload_n 1, 1) := by decide +kernel
theorem dX7_holder_21 : decode cX7_holder 21 = .ok (.iadd, 1) := by decide +kernel
theorem dX7_holder_22 : decode cX7_holder 22 = .ok (.iaload, 1) := by decide +kernel
theorem dX7_holder_23 : decode cX7_holder 23 = .ok (.ifCond .ge 8, 3) := by decide +kernel
theorem dX7_holder_26 : decode cX7_holder 26 = .ok (.ldc 136, 2) := by decide +kernel
theorem dX7_holder_28 : decode cX7_holder 28 = .ok (.goto 13, 3) := by decide +kernel
theorem dX7_holder_31 : decode cX7_holder 31 = .ok (.aload_n 0, 1) := by decide +kernel
theorem dX7_holder_32 : decode cX7_holder 32 = .ok (.getfield 7, 3) := by decide +kernel
theorem dX7_holder_35 : decode cX7_holder 35 = .ok (.sipush 168, 3) := by decide +kernel
theorem dX7_holder_38 : decode cX7_holder 38 = .ok (.iload_n 1, 1) := by decide +kernel
theorem dX7_holder_39 : decode cX7_holder 39 = .ok (.iadd, 1) := by decide +kernel
theorem dX7_holder_40 : decode cX7_holder 40 = .ok (.iaload, 1) := by decide +kernel
theorem dX7_holder_41 : decode cX7_holder 41 = .ok (.ireturn, 1) := by decide +kernel
theorem dX7_requestOf_0 : decode cX7_requestOf 0 = .ok (.iload_n 1, 1) := by decide +kernel
theorem dX7_requestOf_1 : decode cX7_requestOf 1 = .ok (.ifCond .lt 12, 3) := by decide +kernel
theorem dX7_requestOf_4 : decode cX7_requestOf 4 = .ok (.iload_n 2, 1) := by decide +kernel
theorem dX7_requestOf_5 : decode cX7_requestOf 5 = .ok (.iconst 0, 1) := by decide +kernel
theorem dX7_requestOf_6 : decode cX7_requestOf 6 = .ok (.iconst 2, 1) := by decide +kernel
theorem dX7_requestOf_7 : decode cX7_requestOf 7 = .ok (.invokestatic 26, 3) := by decide +kernel
theorem dX7_requestOf_10 : decode cX7_requestOf 10 = .ok (.ifCond .ne 6, 3) := by decide +kernel
theorem dX7_requestOf_13 : decode cX7_requestOf 13 = .ok (.ldc 30, 2) := by decide +kernel
theorem dX7_requestOf_15 : decode cX7_requestOf 15 = .ok (.ireturn, 1) := by decide +kernel
theorem dX7_requestOf_16 : decode cX7_requestOf 16 = .ok (.iload_n 1, 1) := by decide +kernel
theorem dX7_requestOf_17 : decode cX7_requestOf 17 = .ok (.aload_n 0, 1) := by decide +kernel
theorem dX7_requestOf_18 : decode cX7_requestOf 18 = .ok (.getfield 7, 3) := by decide +kernel
theorem dX7_requestOf_21 : decode cX7_requestOf 21 = .ok (.bipush 8, 2) := by decide +kernel
theorem dX7_requestOf_23 : decode cX7_requestOf 23 = .ok (.iaload, 1) := by decide +kernel
theorem dX7_requestOf_24 : decode cX7_requestOf 24 = .ok (.if_icmp .ge 20, 3) := by decide +kernel
theorem dX7_requestOf_27 : decode cX7_requestOf 27 = .ok (.aload_n 0, 1) := by decide +kernel
theorem dX7_requestOf_28 : decode cX7_requestOf 28 = .ok (.getfield 7, 3) := by decide +kernel
theorem dX7_requestOf_31 : decode cX7_requestOf 31 = .ok (.sipush 228, 3) := by decide +kernel
theorem dX7_requestOf_34 : decode cX7_requestOf 34 = .ok (.iconst 3, 1) := by decide +kernel
theorem dX7_requestOf_35 : decode cX7_requestOf 35 = .ok (.iload_n 1, 1) := by decide +kernel
theorem dX7_requestOf_36 : decode cX7_requestOf 36 = .ok (.imul, 1) := by decide +kernel
theorem dX7_requestOf_37 : decode cX7_requestOf 37 = .ok (.iadd, 1) := by decide +kernel
theorem dX7_requestOf_38 : decode cX7_requestOf 38 = .ok (.iload_n 2, 1) := by decide +kernel
theorem dX7_requestOf_39 : decode cX7_requestOf 39 = .ok (.iadd, 1) := by decide +kernel
theorem dX7_requestOf_40 : decode cX7_requestOf 40 = .ok (.iaload, 1) := by decide +kernel
theorem dX7_requestOf_41 : decode cX7_requestOf 41 = .ok (.goto 5, 3) := by decide +kernel
theorem dX7_requestOf_44 : decode cX7_requestOf 44 = .ok (.ldc 136, 2) := by decide +kernel
theorem dX7_requestOf_46 : decode cX7_requestOf 46 = .ok (.ireturn, 1) := by decide +kernel
theorem dX7_nextBy_0 : decode cX7_nextBy 0 = .ok (.iload_n 1, 1) := by decide +kernel
theorem dX7_nextBy_1 : decode cX7_nextBy 1 = .ok (.iconst 0, 1) := by decide +kernel
theorem dX7_nextBy_2 : decode cX7_nextBy 2 = .ok (.iconst 3, 1) := by decide +kernel
theorem dX7_nextBy_3 : decode cX7_nextBy 3 = .ok (.invokestatic 26, 3) := by decide +kernel
theorem dX7_nextBy_6 : decode cX7_nextBy 6 = .ok (.ifCond .ne 6, 3) := by decide +kernel
theorem dX7_nextBy_9 : decode cX7_nextBy 9 = .ok (.ldc 30, 2) := by decide +kernel
theorem dX7_nextBy_11 : decode cX7_nextBy 11 = .ok (.ireturn, 1) := by decide +kernel
theorem dX7_nextBy_12 : decode cX7_nextBy 12 = .ok (.aload_n 0, 1) := by decide +kernel
theorem dX7_nextBy_13 : decode cX7_nextBy 13 = .ok (.iload_n 1, 1) := by decide +kernel
theorem dX7_nextBy_14 : decode cX7_nextBy 14 = .ok (.invokevirtual 115, 3) := by decide +kernel
theorem dX7_nextBy_17 : decode cX7_nextBy 17 = .ok (.istore_n 2, 1) := by decide +kernel
theorem dX7_nextBy_18 : decode cX7_nextBy 18 = .ok (.iload_n 2, 1) := by decide +kernel
theorem dX7_nextBy_19 : decode cX7_nextBy 19 = .ok (.ifCond .ge 8, 3) := by decide +kernel
theorem dX7_nextBy_22 : decode cX7_nextBy 22 = .ok (.ldc 136, 2) := by decide +kernel
theorem dX7_nextBy_24 : decode cX7_nextBy 24 = .ok (.goto 4, 3) := by decide +kernel
theorem dX7_nextBy_27 : decode cX7_nextBy 27 = .ok (.iload_n 2, 1) := by decide +kernel
theorem dX7_nextBy_28 : decode cX7_nextBy 28 = .ok (.ireturn, 1) := by decide +kernel
theorem dX7_would_0 : decode cX7_would 0 = .ok (.iload_n 1, 1) := by decide +kernel
theorem dX7_would_1 : decode cX7_would 1 = .ok (.iconst 0, 1) := by decide +kernel
theorem dX7_would_2 : decode cX7_would 2 = .ok (.iconst 3, 1) := by decide +kernel
theorem dX7_would_3 : decode cX7_would 3 = .ok (.invokestatic 26, 3) := by decide +kernel
theorem dX7_would_6 : decode cX7_would 6 = .ok (.ifCond .eq 12, 3) := by decide +kernel
theorem dX7_would_9 : decode cX7_would 9 = .ok (.iload_n 2, 1) := by decide +kernel
theorem dX7_would_10 : decode cX7_would 10 = .ok (.iconst 0, 1) := by decide +kernel
theorem dX7_would_11 : decode cX7_would 11 = .ok (.iconst 4, 1) := by decide +kernel
theorem dX7_would_12 : decode cX7_would 12 = .ok (.invokestatic 26, 3) := by decide +kernel
theorem dX7_would_15 : decode cX7_would 15 = .ok (.ifCond .ne 6, 3) := by decide +kernel
theorem dX7_would_18 : decode cX7_would 18 = .ok (.ldc 30, 2) := by decide +kernel
theorem dX7_would_20 : decode cX7_would 20 = .ok (.ireturn, 1) := by decide +kernel
theorem dX7_would_21 : decode cX7_would 21 = .ok (.aload_n 0, 1) := by decide +kernel
theorem dX7_would_22 : decode cX7_would 22 = .ok (.invokevirtual 140, 3) := by decide +kernel
theorem dX7_would_25 : decode cX7_would 25 = .ok (.aload_n 0, 1) := by decide +kernel
theorem dX7_would_26 : decode cX7_would 26 = .ok (.iload_n 1, 1) := by decide +kernel
theorem dX7_would_27 : decode cX7_would 27 = .ok (.invokevirtual 133, 3) := by decide +kernel
theorem dX7_would_30 : decode cX7_would 30 = .ok (.istore_n 3, 1) := by decide +kernel
theorem dX7_would_31 : decode cX7_would 31 = .ok (.aload_n 0, 1) := by decide +kernel
theorem dX7_would_32 : decode cX7_would 32 = .ok (.getfield 7, 3) := by decide +kernel
theorem dX7_would_35 : decode cX7_would 35 = .ok (.iconst 0, 1) := by decide +kernel
theorem dX7_would_36 : decode cX7_would 36 = .ok (.iaload, 1) := by decide +kernel
theorem dX7_would_37 : decode cX7_would 37 = .ok (.istore 4, 2) := by decide +kernel
theorem dX7_would_39 : decode cX7_would 39 = .ok (.aload_n 0, 1) := by decide +kernel
theorem dX7_would_40 : decode cX7_would 40 = .ok (.getfield 7, 3) := by decide +kernel
theorem dX7_would_43 : decode cX7_would 43 = .ok (.bipush 10, 2) := by decide +kernel
theorem dX7_would_45 : decode cX7_would 45 = .ok (.iaload, 1) := by decide +kernel
theorem dX7_would_46 : decode cX7_would 46 = .ok (.istore 5, 2) := by decide +kernel
theorem dX7_would_48 : decode cX7_would 48 = .ok (.aload_n 0, 1) := by decide +kernel
theorem dX7_would_49 : decode cX7_would 49 = .ok (.invokevirtual 143, 3) := by decide +kernel
theorem dX7_would_52 : decode cX7_would 52 = .ok (.iload_n 3, 1) := by decide +kernel
theorem dX7_would_53 : decode cX7_would 53 = .ok (.ldc 35, 2) := by decide +kernel
theorem dX7_would_55 : decode cX7_would 55 = .ok (.if_icmp .ne 6, 3) := by decide +kernel
theorem dX7_would_58 : decode cX7_would 58 = .ok (.ldc 35, 2) := by decide +kernel
theorem dX7_would_60 : decode cX7_would 60 = .ok (.ireturn, 1) := by decide +kernel
theorem dX7_would_61 : decode cX7_would 61 = .ok (.iload_n 2, 1) := by decide +kernel
theorem dX7_would_62 : decode cX7_would 62 = .ok (.tableswitch 58 0 3 #[30, 40, 51, 53], 30) := by decide +kernel
theorem dX7_would_92 : decode cX7_would 92 = .ok (.iload 4, 2) := by decide +kernel
theorem dX7_would_94 : decode cX7_would 94 = .ok (.aload_n 0, 1) := by decide +kernel
theorem dX7_would_95 : decode cX7_would 95 = .ok (.getfield 7, 3) := by decide +kernel
theorem dX7_would_98 : decode cX7_would 98 = .ok (.iconst 0, 1) := by decide +kernel
theorem dX7_would_99 : decode cX7_would 99 = .ok (.iaload, 1) := by decide +kernel
theorem dX7_would_100 : decode cX7_would 100 = .ok (.isub, 1) := by decide +kernel
theorem dX7_would_101 : decode cX7_would 101 = .ok (.ireturn, 1) := by decide +kernel
theorem dX7_would_102 : decode cX7_would 102 = .ok (.iload 5, 2) := by decide +kernel
theorem dX7_would_104 : decode cX7_would 104 = .ok (.aload_n 0, 1) := by decide +kernel
theorem dX7_would_105 : decode cX7_would 105 = .ok (.getfield 7, 3) := by decide +kernel
theorem dX7_would_108 : decode cX7_would 108 = .ok (.bipush 10, 2) := by decide +kernel
theorem dX7_would_110 : decode cX7_would 110 = .ok (.iaload, 1) := by decide +kernel
theorem dX7_would_111 : decode cX7_would 111 = .ok (.isub, 1) := by decide +kernel
theorem dX7_would_112 : decode cX7_would 112 = .ok (.ireturn, 1) := by decide +kernel
theorem dX7_would_113 : decode cX7_would 113 = .ok (.iload_n 3, 1) := by decide +kernel
theorem dX7_would_114 : decode cX7_would 114 = .ok (.ireturn, 1) := by decide +kernel
theorem dX7_would_115 : decode cX7_would 115 = .ok (.aload_n 0, 1) := by decide +kernel
theorem dX7_would_116 : decode cX7_would 116 = .ok (.getfield 124, 3) := by decide +kernel
theorem dX7_would_119 : decode cX7_would 119 = .ok (.ireturn, 1) := by decide +kernel
theorem dX7_would_120 : decode cX7_would 120 = .ok (.aload_n 0, 1) := by decide +kernel
theorem dX7_would_121 : decode cX7_would 121 = .ok (.getfield 127, 3) := by decide +kernel
theorem dX7_would_124 : decode cX7_would 124 = .ok (.ireturn, 1) := by decide +kernel
theorem dX7_wayTo_0 : decode cX7_wayTo 0 = .ok (.iload_n 1, 1) := by decide +kernel
theorem dX7_wayTo_1 : decode cX7_wayTo 1 = .ok (.iconst 0, 1) := by decide +kernel
theorem dX7_wayTo_2 : decode cX7_wayTo 2 = .ok (.bipush 7, 2) := by decide +kernel
theorem dX7_wayTo_4 : decode cX7_wayTo 4 = .ok (.invokestatic 26, 3) := by decide +kernel
theorem dX7_wayTo_7 : decode cX7_wayTo 7 = .ok (.ifCond .ne 6, 3) := by decide +kernel
theorem dX7_wayTo_10 : decode cX7_wayTo 10 = .ok (.ldc 30, 2) := by decide +kernel
theorem dX7_wayTo_12 : decode cX7_wayTo 12 = .ok (.ireturn, 1) := by decide +kernel
theorem dX7_wayTo_13 : decode cX7_wayTo 13 = .ok (.aload_n 0, 1) := by decide +kernel
theorem dX7_wayTo_14 : decode cX7_wayTo 14 = .ok (.invokevirtual 140, 3) := by decide +kernel
theorem dX7_wayTo_17 : decode cX7_wayTo 17 = .ok (.aload_n 0, 1) := by decide +kernel
theorem dX7_wayTo_18 : decode cX7_wayTo 18 = .ok (.iload_n 1, 1) := by decide +kernel
theorem dX7_wayTo_19 : decode cX7_wayTo 19 = .ok (.invokevirtual 130, 3) := by decide +kernel
theorem dX7_wayTo_22 : decode cX7_wayTo 22 = .ok (.aload_n 0, 1) := by decide +kernel
theorem dX7_wayTo_23 : decode cX7_wayTo 23 = .ok (.getfield 7, 3) := by decide +kernel
theorem dX7_wayTo_26 : decode cX7_wayTo 26 = .ok (.iconst 0, 1) := by decide +kernel
theorem dX7_wayTo_27 : decode cX7_wayTo 27 = .ok (.iaload, 1) := by decide +kernel
theorem dX7_wayTo_28 : decode cX7_wayTo 28 = .ok (.istore_n 2, 1) := by decide +kernel
theorem dX7_wayTo_29 : decode cX7_wayTo 29 = .ok (.aload_n 0, 1) := by decide +kernel
theorem dX7_wayTo_30 : decode cX7_wayTo 30 = .ok (.invokevirtual 143, 3) := by decide +kernel
theorem dX7_wayTo_33 : decode cX7_wayTo 33 = .ok (.iload_n 2, 1) := by decide +kernel
theorem dX7_wayTo_34 : decode cX7_wayTo 34 = .ok (.aload_n 0, 1) := by decide +kernel
theorem dX7_wayTo_35 : decode cX7_wayTo 35 = .ok (.getfield 7, 3) := by decide +kernel
theorem dX7_wayTo_38 : decode cX7_wayTo 38 = .ok (.iconst 0, 1) := by decide +kernel
theorem dX7_wayTo_39 : decode cX7_wayTo 39 = .ok (.iaload, 1) := by decide +kernel
theorem dX7_wayTo_40 : decode cX7_wayTo 40 = .ok (.isub, 1) := by decide +kernel
theorem dX7_wayTo_41 : decode cX7_wayTo 41 = .ok (.ireturn, 1) := by decide +kernel
theorem dX7_wholeBatch_0 : decode cX7_wholeBatch 0 = .ok (.iload_n 1, 1) := by decide +kernel
theorem dX7_wholeBatch_1 : decode cX7_wholeBatch 1 = .ok (.iconst 0, 1) := by decide +kernel
theorem dX7_wholeBatch_2 : decode cX7_wholeBatch 2 = .ok (.iconst 3, 1) := by decide +kernel
theorem dX7_wholeBatch_3 : decode cX7_wholeBatch 3 = .ok (.invokestatic 26, 3) := by decide +kernel
theorem dX7_wholeBatch_6 : decode cX7_wholeBatch 6 = .ok (.ifCond .eq 12, 3) := by decide +kernel
theorem dX7_wholeBatch_9 : decode cX7_wholeBatch 9 = .ok (.iload_n 2, 1) := by decide +kernel
theorem dX7_wholeBatch_10 : decode cX7_wholeBatch 10 = .ok (.iconst 0, 1) := by decide +kernel
theorem dX7_wholeBatch_11 : decode cX7_wholeBatch 11 = .ok (.iconst 2, 1) := by decide +kernel
theorem dX7_wholeBatch_12 : decode cX7_wholeBatch 12 = .ok (.invokestatic 26, 3) := by decide +kernel
theorem dX7_wholeBatch_15 : decode cX7_wholeBatch 15 = .ok (.ifCond .ne 6, 3) := by decide +kernel
theorem dX7_wholeBatch_18 : decode cX7_wholeBatch 18 = .ok (.ldc 30, 2) := by decide +kernel
theorem dX7_wholeBatch_20 : decode cX7_wholeBatch 20 = .ok (.ireturn, 1) := by decide +kernel
theorem dX7_wholeBatch_21 : decode cX7_wholeBatch 21 = .ok (.aload_n 0, 1) := by decide +kernel
theorem dX7_wholeBatch_22 : decode cX7_wholeBatch 22 = .ok (.invokevirtual 140, 3) := by decide +kernel
theorem dX7_wholeBatch_25 : decode cX7_wholeBatch 25 = .ok (.iconst 0, 1) := by decide +kernel
theorem dX7_wholeBatch_26 : decode cX7_wholeBatch 26 = .ok (.istore_n 3, 1) := by decide +kernel
theorem dX7_wholeBatch_27 : decode cX7_wholeBatch 27 = .ok (.aload_n 0, 1) := by decide +kernel
theorem dX7_wholeBatch_28 : decode cX7_wholeBatch 28 = .ok (.getfield 7, 3) := by decide +kernel
theorem dX7_wholeBatch_31 : decode cX7_wholeBatch 31 = .ok (.bipush 8, 2) := by decide +kernel
theorem dX7_wholeBatch_33 : decode cX7_wholeBatch 33 = .ok (.iaload, 1) := by decide +kernel
theorem dX7_wholeBatch_34 : decode cX7_wholeBatch 34 = .ok (.ifCond .le 17, 3) := by decide +kernel
theorem dX7_wholeBatch_37 : decode cX7_wholeBatch 37 = .ok (.aload_n 0, 1) := by decide +kernel
theorem dX7_wholeBatch_38 : decode cX7_wholeBatch 38 = .ok (.iload_n 1, 1) := by decide +kernel
theorem dX7_wholeBatch_39 : decode cX7_wholeBatch 39 = .ok (.invokevirtual 133, 3) := by decide +kernel
theorem dX7_wholeBatch_42 : decode cX7_wholeBatch 42 = .ok (.ifCond .lt 9, 3) := by decide +kernel
theorem dX7_wholeBatch_45 : decode cX7_wholeBatch 45 = .ok (.iinc 3 1, 3) := by decide +kernel
theorem dX7_wholeBatch_48 : decode cX7_wholeBatch 48 = .ok (.goto (-21), 3) := by decide +kernel
theorem dX7_wholeBatch_51 : decode cX7_wholeBatch 51 = .ok (.aload_n 0, 1) := by decide +kernel
theorem dX7_wholeBatch_52 : decode cX7_wholeBatch 52 = .ok (.getfield 7, 3) := by decide +kernel
theorem dX7_wholeBatch_55 : decode cX7_wholeBatch 55 = .ok (.iconst 0, 1) := by decide +kernel
theorem dX7_wholeBatch_56 : decode cX7_wholeBatch 56 = .ok (.iaload, 1) := by decide +kernel
theorem dX7_wholeBatch_57 : decode cX7_wholeBatch 57 = .ok (.istore 4, 2) := by decide +kernel
theorem dX7_wholeBatch_59 : decode cX7_wholeBatch 59 = .ok (.aload_n 0, 1) := by decide +kernel
theorem dX7_wholeBatch_60 : decode cX7_wholeBatch 60 = .ok (.getfield 7, 3) := by decide +kernel
theorem dX7_wholeBatch_63 : decode cX7_wholeBatch 63 = .ok (.bipush 8, 2) := by decide +kernel
theorem dX7_wholeBatch_65 : decode cX7_wholeBatch 65 = .ok (.iaload, 1) := by decide +kernel
theorem dX7_wholeBatch_66 : decode cX7_wholeBatch 66 = .ok (.istore 5, 2) := by decide +kernel
theorem dX7_wholeBatch_68 : decode cX7_wholeBatch 68 = .ok (.aload_n 0, 1) := by decide +kernel
theorem dX7_wholeBatch_69 : decode cX7_wholeBatch 69 = .ok (.invokevirtual 143, 3) := by decide +kernel
theorem dX7_wholeBatch_72 : decode cX7_wholeBatch 72 = .ok (.iload_n 2, 1) := by decide +kernel
theorem dX7_wholeBatch_73 : decode cX7_wholeBatch 73 = .ok (.ifCond .ne 15, 3) := by decide +kernel
theorem dX7_wholeBatch_76 : decode cX7_wholeBatch 76 = .ok (.iload 4, 2) := by decide +kernel
theorem dX7_wholeBatch_78 : decode cX7_wholeBatch 78 = .ok (.aload_n 0, 1) := by decide +kernel
theorem dX7_wholeBatch_79 : decode cX7_wholeBatch 79 = .ok (.getfield 7, 3) := by decide +kernel
theorem dX7_wholeBatch_82 : decode cX7_wholeBatch 82 = .ok (.iconst 0, 1) := by decide +kernel
theorem dX7_wholeBatch_83 : decode cX7_wholeBatch 83 = .ok (.iaload, 1) := by decide +kernel
theorem dX7_wholeBatch_84 : decode cX7_wholeBatch 84 = .ok (.isub, 1) := by decide +kernel
theorem dX7_wholeBatch_85 : decode cX7_wholeBatch 85 = .ok (.goto 14, 3) := by decide +kernel
theorem dX7_wholeBatch_88 : decode cX7_wholeBatch 88 = .ok (.iload_n 2, 1) := by decide +kernel
theorem dX7_wholeBatch_89 : decode cX7_wholeBatch 89 = .ok (.iconst 1, 1) := by decide +kernel
theorem dX7_wholeBatch_90 : decode cX7_wholeBatch 90 = .ok (.if_icmp .ne 7, 3) := by decide +kernel
theorem dX7_wholeBatch_93 : decode cX7_wholeBatch 93 = .ok (.iload_n 3, 1) := by decide +kernel
theorem dX7_wholeBatch_94 : decode cX7_wholeBatch 94 = .ok (.goto 5, 3) := by decide +kernel
theorem dX7_wholeBatch_97 : decode cX7_wholeBatch 97 = .ok (.iload 5, 2) := by decide +kernel
theorem dX7_wholeBatch_99 : decode cX7_wholeBatch 99 = .ok (.ireturn, 1) := by decide +kernel
theorem dX7_worn_0 : decode cX7_worn 0 = .ok (.iconst 0, 1) := by decide +kernel
theorem dX7_worn_1 : decode cX7_worn 1 = .ok (.istore_n 1, 1) := by decide +kernel
theorem dX7_worn_2 : decode cX7_worn 2 = .ok (.iconst 0, 1) := by decide +kernel
theorem dX7_worn_3 : decode cX7_worn 3 = .ok (.istore_n 2, 1) := by decide +kernel
theorem dX7_worn_4 : decode cX7_worn 4 = .ok (.iload_n 2, 1) := by decide +kernel
theorem dX7_worn_5 : decode cX7_worn 5 = .ok (.aload_n 0, 1) := by decide +kernel
theorem dX7_worn_6 : decode cX7_worn 6 = .ok (.getfield 7, 3) := by decide +kernel
theorem dX7_worn_9 : decode cX7_worn 9 = .ok (.bipush 7, 2) := by decide +kernel
theorem dX7_worn_11 : decode cX7_worn 11 = .ok (.iaload, 1) := by decide +kernel
theorem dX7_worn_12 : decode cX7_worn 12 = .ok (.if_icmp .ge 28, 3) := by decide +kernel
theorem dX7_worn_15 : decode cX7_worn 15 = .ok (.iload_n 1, 1) := by decide +kernel
theorem dX7_worn_16 : decode cX7_worn 16 = .ok (.aload_n 0, 1) := by decide +kernel
theorem dX7_worn_17 : decode cX7_worn 17 = .ok (.iload_n 2, 1) := by decide +kernel
theorem dX7_worn_18 : decode cX7_worn 18 = .ok (.iconst 1, 1) := by decide +kernel
theorem dX7_worn_19 : decode cX7_worn 19 = .ok (.invokevirtual 44, 3) := by decide +kernel
theorem dX7_worn_22 : decode cX7_worn 22 = .ok (.bipush 6, 2) := by decide +kernel
theorem dX7_worn_24 : decode cX7_worn 24 = .ok (.if_icmp .lt 7, 3) := by decide +kernel
theorem dX7_worn_27 : decode cX7_worn 27 = .ok (.iconst 1, 1) := by decide +kernel
theorem dX7_worn_28 : decode cX7_worn 28 = .ok (.goto 4, 3) := by decide +kernel
theorem dX7_worn_31 : decode cX7_worn 31 = .ok (.iconst 0, 1) := by decide +kernel
theorem dX7_worn_32 : decode cX7_worn 32 = .ok (.iadd, 1) := by decide +kernel
theorem dX7_worn_33 : decode cX7_worn 33 = .ok (.istore_n 1, 1) := by decide +kernel
theorem dX7_worn_34 : decode cX7_worn 34 = .ok (.iinc 2 1, 3) := by decide +kernel
theorem dX7_worn_37 : decode cX7_worn 37 = .ok (.goto (-33), 3) := by decide +kernel
theorem dX7_worn_40 : decode cX7_worn 40 = .ok (.iload_n 1, 1) := by decide +kernel
theorem dX7_worn_41 : decode cX7_worn 41 = .ok (.ireturn, 1) := by decide +kernel
theorem dX7_count_0 : decode cX7_count 0 = .ok (.iload_n 1, 1) := by decide +kernel
theorem dX7_count_1 : decode cX7_count 1 = .ok (.tableswitch 164 0 15 #[79, 79, 79, 86, 91, 99, 107, 112, 117, 117, 117, 124, 124, 145, 154, 159], 79) := by decide +kernel
theorem dX7_count_80 : decode cX7_count 80 = .ok (.aload_n 0, 1) := by decide +kernel
theorem dX7_count_81 : decode cX7_count 81 = .ok (.getfield 7, 3) := by decide +kernel
theorem dX7_count_84 : decode cX7_count 84 = .ok (.iload_n 1, 1) := by decide +kernel
theorem dX7_count_85 : decode cX7_count 85 = .ok (.iaload, 1) := by decide +kernel
theorem dX7_count_86 : decode cX7_count 86 = .ok (.ireturn, 1) := by decide +kernel
theorem dX7_count_87 : decode cX7_count 87 = .ok (.aload_n 0, 1) := by decide +kernel
theorem dX7_count_88 : decode cX7_count 88 = .ok (.invokevirtual 63, 3) := by decide +kernel
