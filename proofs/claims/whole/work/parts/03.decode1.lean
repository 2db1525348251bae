-- printed decode rows
theorem dX3_reasonAgainstForm_28 : decode cX3_reasonAgainstForm 28 = .ok (.iconst 0, 1) := by decide +kernel
theorem dX3_reasonAgainstForm_29 : decode cX3_reasonAgainstForm 29 = .ok (.goto 4, 3) := by decide +kernel
theorem dX3_reasonAgainstForm_32 : decode cX3_reasonAgainstForm 32 = .ok (.iconst 2, 1) := by decide +kernel
theorem dX3_reasonAgainstForm_33 : decode cX3_reasonAgainstForm 33 = .ok (.ireturn, 1) := by decide +kernel
theorem dX3_carryOut_0 : decode cX3_carryOut 0 = .ok (.aload_n 0, 1) := by decide +kernel
theorem dX3_carryOut_1 : decode cX3_carryOut 1 = .ok (.getfield 63, 3) := by decide +kernel
theorem dX3_carryOut_4 : decode cX3_carryOut 4 = .ok (.tableswitch 104 0 6 #[44, 53, 62, 67, 76, 86, 95], 44) := by decide +kernel
theorem dX3_carryOut_48 : decode cX3_carryOut 48 = .ok (.aload_n 1, 1) := by decide +kernel
theorem dX3_carryOut_49 : decode cX3_carryOut 49 = .ok (.aload_n 0, 1) := by decide +kernel
theorem dX3_carryOut_50 : decode cX3_carryOut 50 = .ok (.getfield 54, 3) := by decide +kernel
theorem dX3_carryOut_53 : decode cX3_carryOut 53 = .ok (.invokevirtual 66, 3) := by decide +kernel
theorem dX3_carryOut_56 : decode cX3_carryOut 56 = .ok (.ireturn, 1) := by decide +kernel
theorem dX3_carryOut_57 : decode cX3_carryOut 57 = .ok (.aload_n 1, 1) := by decide +kernel
theorem dX3_carryOut_58 : decode cX3_carryOut 58 = .ok (.aload_n 0, 1) := by decide +kernel
theorem dX3_carryOut_59 : decode cX3_carryOut 59 = .ok (.getfield 54, 3) := by decide +kernel
theorem dX3_carryOut_62 : decode cX3_carryOut 62 = .ok (.invokevirtual 72, 3) := by decide +kernel
theorem dX3_carryOut_65 : decode cX3_carryOut 65 = .ok (.ireturn, 1) := by decide +kernel
theorem dX3_carryOut_66 : decode cX3_carryOut 66 = .ok (.aload_n 1, 1) := by decide +kernel
theorem dX3_carryOut_67 : decode cX3_carryOut 67 = .ok (.invokevirtual 75, 3) := by decide +kernel
theorem dX3_carryOut_70 : decode cX3_carryOut 70 = .ok (.ireturn, 1) := by decide +kernel
theorem dX3_carryOut_71 : decode cX3_carryOut 71 = .ok (.aload_n 1, 1) := by decide +kernel
theorem dX3_carryOut_72 : decode cX3_carryOut 72 = .ok (.aload_n 0, 1) := by decide +kernel
theorem dX3_carryOut_73 : decode cX3_carryOut 73 = .ok (.getfield 54, 3) := by decide +kernel
theorem dX3_carryOut_76 : decode cX3_carryOut 76 = .ok (.invokevirtual 78, 3) := by decide +kernel
theorem dX3_carryOut_79 : decode cX3_carryOut 79 = .ok (.ireturn, 1) := by decide +kernel
theorem dX3_carryOut_80 : decode cX3_carryOut 80 = .ok (.aload_n 1, 1) := by decide +kernel
theorem dX3_carryOut_81 : decode cX3_carryOut 81 = .ok (.aload_n 0, 1) := by decide +kernel
theorem dX3_carryOut_82 : decode cX3_carryOut 82 = .ok (.getfield 54, 3) := by decide +kernel
theorem dX3_carryOut_85 : decode cX3_carryOut 85 = .ok (.ineg, 1) := by decide +kernel
theorem dX3_carryOut_86 : decode cX3_carryOut 86 = .ok (.invokevirtual 78, 3) := by decide +kernel
theorem dX3_carryOut_89 : decode cX3_carryOut 89 = .ok (.ireturn, 1) := by decide +kernel
theorem dX3_carryOut_90 : decode cX3_carryOut 90 = .ok (.aload_n 1, 1) := by decide +kernel
theorem dX3_carryOut_91 : decode cX3_carryOut 91 = .ok (.aload_n 0, 1) := by decide +kernel
theorem dX3_carryOut_92 : decode cX3_carryOut 92 = .ok (.getfield 54, 3) := by decide +kernel
theorem dX3_carryOut_95 : decode cX3_carryOut 95 = .ok (.invokevirtual 81, 3) := by decide +kernel
theorem dX3_carryOut_98 : decode cX3_carryOut 98 = .ok (.ireturn, 1) := by decide +kernel
theorem dX3_carryOut_99 : decode cX3_carryOut 99 = .ok (.aload_n 1, 1) := by decide +kernel
theorem dX3_carryOut_100 : decode cX3_carryOut 100 = .ok (.aload_n 0, 1) := by decide +kernel
theorem dX3_carryOut_101 : decode cX3_carryOut 101 = .ok (.getfield 54, 3) := by decide +kernel
theorem dX3_carryOut_104 : decode cX3_carryOut 104 = .ok (.invokevirtual 84, 3) := by decide +kernel
theorem dX3_carryOut_107 : decode cX3_carryOut 107 = .ok (.ireturn, 1) := by decide +kernel
theorem dX3_carryOut_108 : decode cX3_carryOut 108 = .ok (.aload_n 1, 1) := by decide +kernel
theorem dX3_carryOut_109 : decode cX3_carryOut 109 = .ok (.aload_n 0, 1) := by decide +kernel
theorem dX3_carryOut_110 : decode cX3_carryOut 110 = .ok (.getfield 54, 3) := by decide +kernel
theorem dX3_carryOut_113 : decode cX3_carryOut 113 = .ok (.invokevirtual 87, 3) := by decide +kernel
theorem dX3_carryOut_116 : decode cX3_carryOut 116 = .ok (.ireturn, 1) := by decide +kernel
theorem dX3_lowestNumber_0 : decode cX3_lowestNumber 0 = .ok (.aload_n 0, 1) := by decide +kernel
theorem dX3_lowestNumber_1 : decode cX3_lowestNumber 1 = .ok (.getfield 63, 3) := by decide +kernel
theorem dX3_lowestNumber_4 : decode cX3_lowestNumber 4 = .ok (.iconst 3, 1) := by decide +kernel
theorem dX3_lowestNumber_5 : decode cX3_lowestNumber 5 = .ok (.if_icmp .eq 11, 3) := by decide +kernel
theorem dX3_lowestNumber_8 : decode cX3_lowestNumber 8 = .ok (.aload_n 0, 1) := by decide +kernel
theorem dX3_lowestNumber_9 : decode cX3_lowestNumber 9 = .ok (.getfield 63, 3) := by decide +kernel
theorem dX3_lowestNumber_12 : decode cX3_lowestNumber 12 = .ok (.iconst 4, 1) := by decide +kernel
theorem dX3_lowestNumber_13 : decode cX3_lowestNumber 13 = .ok (.if_icmp .ne 7, 3) := by decide +kernel
theorem dX3_lowestNumber_16 : decode cX3_lowestNumber 16 = .ok (.iconst 1, 1) := by decide +kernel
theorem dX3_lowestNumber_17 : decode cX3_lowestNumber 17 = .ok (.goto 4, 3) := by decide +kernel
theorem dX3_lowestNumber_20 : decode cX3_lowestNumber 20 = .ok (.iconst 0, 1) := by decide +kernel
theorem dX3_lowestNumber_21 : decode cX3_lowestNumber 21 = .ok (.ireturn, 1) := by decide +kernel
theorem dX3_greatestNumber_0 : decode cX3_greatestNumber 0 = .ok (.aload_n 0, 1) := by decide +kernel
theorem dX3_greatestNumber_1 : decode cX3_greatestNumber 1 = .ok (.getfield 63, 3) := by decide +kernel
theorem dX3_greatestNumber_4 : decode cX3_greatestNumber 4 = .ok (.tableswitch 50 0 6 #[44, 44, 50, 46, 46, 48, 48], 44) := by decide +kernel
theorem dX3_greatestNumber_48 : decode cX3_greatestNumber 48 = .ok (.iconst 3, 1) := by decide +kernel
theorem dX3_greatestNumber_49 : decode cX3_greatestNumber 49 = .ok (.ireturn, 1) := by decide +kernel
theorem dX3_greatestNumber_50 : decode cX3_greatestNumber 50 = .ok (.iconst 4, 1) := by decide +kernel
theorem dX3_greatestNumber_51 : decode cX3_greatestNumber 51 = .ok (.ireturn, 1) := by decide +kernel
theorem dX3_greatestNumber_52 : decode cX3_greatestNumber 52 = .ok (.iconst 1, 1) := by decide +kernel
theorem dX3_greatestNumber_53 : decode cX3_greatestNumber 53 = .ok (.ireturn, 1) := by decide +kernel
theorem dX3_greatestNumber_54 : decode cX3_greatestNumber 54 = .ok (.iconst 3, 1) := by decide +kernel
theorem dX3_greatestNumber_55 : decode cX3_greatestNumber 55 = .ok (.ireturn, 1) := by decide +kernel
theorem dX3_read_0 : decode cX3_read 0 = .ok (.aload_n 0, 1) := by decide +kernel
theorem dX3_read_1 : decode cX3_read 1 = .ok (.iload_n 1, 1) := by decide +kernel
theorem dX3_read_2 : decode cX3_read 2 = .ok (.invokevirtual 90, 3) := by decide +kernel
theorem dX3_read_5 : decode cX3_read 5 = .ok (.istore_n 2, 1) := by decide +kernel
theorem dX3_read_6 : decode cX3_read 6 = .ok (.aload_n 0, 1) := by decide +kernel
theorem dX3_read_7 : decode cX3_read 7 = .ok (.aload_n 0, 1) := by decide +kernel
theorem dX3_read_8 : decode cX3_read 8 = .ok (.iload_n 1, 1) := by decide +kernel
theorem dX3_read_9 : decode cX3_read 9 = .ok (.iload_n 2, 1) := by decide +kernel
theorem dX3_read_10 : decode cX3_read 10 = .ok (.invokevirtual 93, 3) := by decide +kernel
theorem dX3_read_13 : decode cX3_read 13 = .ok (.putfield 63, 3) := by decide +kernel
theorem dX3_read_16 : decode cX3_read 16 = .ok (.aload_n 0, 1) := by decide +kernel
theorem dX3_read_17 : decode cX3_read 17 = .ok (.iconst 0, 1) := by decide +kernel
theorem dX3_read_18 : decode cX3_read 18 = .ok (.putfield 54, 3) := by decide +kernel
theorem dX3_read_21 : decode cX3_read 21 = .ok (.aload_n 0, 1) := by decide +kernel
theorem dX3_read_22 : decode cX3_read 22 = .ok (.iload_n 1, 1) := by decide +kernel
theorem dX3_read_23 : decode cX3_read 23 = .ok (.iload_n 2, 1) := by decide +kernel
theorem dX3_read_24 : decode cX3_read 24 = .ok (.iadd, 1) := by decide +kernel
theorem dX3_read_25 : decode cX3_read 25 = .ok (.putfield 50, 3) := by decide +kernel
theorem dX3_read_28 : decode cX3_read 28 = .ok (.aload_n 0, 1) := by decide +kernel
theorem dX3_read_29 : decode cX3_read 29 = .ok (.getfield 63, 3) := by decide +kernel
theorem dX3_read_32 : decode cX3_read 32 = .ok (.iconst (-1), 1) := by decide +kernel
theorem dX3_read_33 : decode cX3_read 33 = .ok (.if_icmp .ne 9, 3) := by decide +kernel
theorem dX3_read_36 : decode cX3_read 36 = .ok (.aload_n 0, 1) := by decide +kernel
theorem dX3_read_37 : decode cX3_read 37 = .ok (.iconst 0, 1) := by decide +kernel
theorem dX3_read_38 : decode cX3_read 38 = .ok (.putfield 43, 3) := by decide +kernel
theorem dX3_read_41 : decode cX3_read 41 = .ok (.return_, 1) := by decide +kernel
theorem dX3_read_42 : decode cX3_read 42 = .ok (.aload_n 0, 1) := by decide +kernel
theorem dX3_read_43 : decode cX3_read 43 = .ok (.getfield 63, 3) := by decide +kernel
theorem dX3_read_46 : decode cX3_read 46 = .ok (.iconst 2, 1) := by decide +kernel
theorem dX3_read_47 : decode cX3_read 47 = .ok (.if_icmp .eq 19, 3) := by decide +kernel
theorem dX3_read_50 : decode cX3_read 50 = .ok (.aload_n 0, 1) := by decide +kernel
theorem dX3_read_51 : decode cX3_read 51 = .ok (.bipush 32, 2) := by decide +kernel
theorem dX3_read_53 : decode cX3_read 53 = .ok (.invokevirtual 97, 3) := by decide +kernel
theorem dX3_read_56 : decode cX3_read 56 = .ok (.ifCond .eq 23, 3) := by decide +kernel
theorem dX3_read_59 : decode cX3_read 59 = .ok (.aload_n 0, 1) := by decide +kernel
theorem dX3_read_60 : decode cX3_read 60 = .ok (.invokevirtual 101, 3) := by decide +kernel
theorem dX3_read_63 : decode cX3_read 63 = .ok (.ifCond .eq 16, 3) := by decide +kernel
theorem dX3_read_66 : decode cX3_read 66 = .ok (.aload_n 0, 1) := by decide +kernel
theorem dX3_read_67 : decode cX3_read 67 = .ok (.bipush 59, 2) := by decide +kernel
theorem dX3_read_69 : decode cX3_read 69 = .ok (.invokevirtual 97, 3) := by decide +kernel
theorem dX3_read_72 : decode cX3_read 72 = .ok (.ifCond .eq 7, 3) := by decide +kernel
theorem dX3_read_75 : decode cX3_read 75 = .ok (.iconst 1, 1) := by decide +kernel
theorem dX3_read_76 : decode cX3_read 76 = .ok (.goto 4, 3) := by decide +kernel
theorem dX3_read_79 : decode cX3_read 79 = .ok (.iconst 0, 1) := by decide +kernel
theorem dX3_read_80 : decode cX3_read 80 = .ok (.istore_n 3, 1) := by decide +kernel
theorem dX3_read_81 : decode cX3_read 81 = .ok (.aload_n 0, 1) := by decide +kernel
theorem dX3_read_82 : decode cX3_read 82 = .ok (.iload_n 3, 1) := by decide +kernel
theorem dX3_read_83 : decode cX3_read 83 = .ok (.ifCond .eq 7, 3) := by decide +kernel
theorem dX3_read_86 : decode cX3_read 86 = .ok (.iconst (-1), 1) := by decide +kernel
theorem dX3_read_87 : decode cX3_read 87 = .ok (.goto 9, 3) := by decide +kernel
theorem dX3_read_90 : decode cX3_read 90 = .ok (.aload_n 0, 1) := by decide +kernel
theorem dX3_read_91 : decode cX3_read 91 = .ok (.getfield 50, 3) := by decide +kernel
theorem dX3_read_94 : decode cX3_read 94 = .ok (.iload_n 1, 1) := by decide +kernel
theorem dX3_read_95 : decode cX3_read 95 = .ok (.isub, 1) := by decide +kernel
theorem dX3_read_96 : decode cX3_read 96 = .ok (.putfield 43, 3) := by decide +kernel
theorem dX3_read_99 : decode cX3_read 99 = .ok (.return_, 1) := by decide +kernel
theorem dX3_readSign_0 : decode cX3_readSign 0 = .ok (.aload_n 0, 1) := by decide +kernel
theorem dX3_readSign_1 : decode cX3_readSign 1 = .ok (.aload_n 0, 1) := by decide +kernel
theorem dX3_readSign_2 : decode cX3_readSign 2 = .ok (.getfield 50, 3) := by decide +kernel
theorem dX3_readSign_5 : decode cX3_readSign 5 = .ok (.invokevirtual 105, 3) := by decide +kernel
theorem dX3_readSign_8 : decode cX3_readSign 8 = .ok (.iload_n 1, 1) := by decide +kernel
theorem dX3_readSign_9 : decode cX3_readSign 9 = .ok (.if_icmp .eq 5, 3) := by decide +kernel
theorem dX3_readSign_12 : decode cX3_readSign 12 = .ok (.iconst 0, 1) := by decide +kernel
theorem dX3_readSign_13 : decode cX3_readSign 13 = .ok (.ireturn, 1) := by decide +kernel
theorem dX3_readSign_14 : decode cX3_readSign 14 = .ok (.aload_n 0, 1) := by decide +kernel
theorem dX3_readSign_15 : decode cX3_readSign 15 = .ok (.dup, 1) := by decide +kernel
theorem dX3_readSign_16 : decode cX3_readSign 16 = .ok (.getfield 50, 3) := by decide +kernel
theorem dX3_readSign_19 : decode cX3_readSign 19 = .ok (.iconst 1, 1) := by decide +kernel
theorem dX3_readSign_20 : decode cX3_readSign 20 = .ok (.iadd, 1) := by decide +kernel
theorem dX3_readSign_21 : decode cX3_readSign 21 = .ok (.putfield 50, 3) := by decide +kernel
theorem dX3_readSign_24 : decode cX3_readSign 24 = .ok (.iconst 1, 1) := by decide +kernel
theorem dX3_readSign_25 : decode cX3_readSign 25 = .ok (.ireturn, 1) := by decide +kernel
theorem dX3_readDigit_0 : decode cX3_readDigit 0 = .ok (.aload_n 0, 1) := by decide +kernel
theorem dX3_readDigit_1 : decode cX3_readDigit 1 = .ok (.aload_n 0, 1) := by decide +kernel
theorem dX3_readDigit_2 : decode cX3_readDigit 2 = .ok (.getfield 50, 3) := by decide +kernel
theorem dX3_readDigit_5 : decode cX3_readDigit 5 = .ok (.invokevirtual 105, 3) := by decide +kernel
theorem dX3_readDigit_8 : decode cX3_readDigit 8 = .ok (.istore_n 1, 1) := by decide +kernel
theorem dX3_readDigit_9 : decode cX3_readDigit 9 = .ok (.iload_n 1, 1) := by decide +kernel
theorem dX3_readDigit_10 : decode cX3_readDigit 10 = .ok (.bipush 48, 2) := by decide +kernel
theorem dX3_readDigit_12 : decode cX3_readDigit 12 = .ok (.bipush 57, 2) := by decide +kernel
theorem dX3_readDigit_14 : decode cX3_readDigit 14 = .ok (.invokestatic 15, 3) := by decide +kernel
theorem dX3_readDigit_17 : decode cX3_readDigit 17 = .ok (.ifCond .ne 5, 3) := by decide +kernel
theorem dX3_readDigit_20 : decode cX3_readDigit 20 = .ok (.iconst 0, 1) := by decide +kernel
theorem dX3_readDigit_21 : decode cX3_readDigit 21 = .ok (.ireturn, 1) := by decide +kernel
theorem dX3_readDigit_22 : decode cX3_readDigit 22 = .ok (.aload_n 0, 1) := by decide +kernel
theorem dX3_readDigit_23 : decode cX3_readDigit 23 = .ok (.iload_n 1, 1) := by decide +kernel
theorem dX3_readDigit_24 : decode cX3_readDigit 24 = .ok (.bipush 48, 2) := by decide +kernel
theorem dX3_readDigit_26 : decode cX3_readDigit 26 = .ok (.isub, 1) := by decide +kernel
theorem dX3_readDigit_27 : decode cX3_readDigit 27 = .ok (.putfield 54, 3) := by decide +kernel
theorem dX3_readDigit_30 : decode cX3_readDigit 30 = .ok (.aload_n 0, 1) := by decide +kernel
theorem dX3_readDigit_31 : decode cX3_readDigit 31 = .ok (.dup, 1) := by decide +kernel
theorem dX3_readDigit_32 : decode cX3_readDigit 32 = .ok (.getfield 50, 3) := by decide +kernel
theorem dX3_readDigit_35 : decode cX3_readDigit 35 = .ok (.iconst 1, 1) := by decide +kernel
theorem dX3_readDigit_36 : decode cX3_readDigit 36 = .ok (.iadd, 1) := by decide +kernel
theorem dX3_readDigit_37 : decode cX3_readDigit 37 = .ok (.putfield 50, 3) := by decide +kernel
theorem dX3_readDigit_40 : decode cX3_readDigit 40 = .ok (.iconst 1, 1) := by decide +kernel
theorem dX3_readDigit_41 : decode cX3_readDigit 41 = .ok (.ireturn, 1) := by decide +kernel
theorem dX3_lettersFrom_0 : decode cX3_lettersFrom 0 = .ok (.iconst 0, 1) := by decide +kernel
theorem dX3_lettersFrom_1 : decode cX3_lettersFrom 1 = .ok (.istore_n 2, 1) := by decide +kernel
theorem dX3_lettersFrom_2 : decode cX3_lettersFrom 2 = .ok (.iload_n 2, 1) := by decide +kernel
theorem dX3_lettersFrom_3 : decode cX3_lettersFrom 3 = .ok (.bipush 60, 2) := by decide +kernel
theorem dX3_lettersFrom_5 : decode cX3_lettersFrom 5 = .ok (.if_icmp .ge 26, 3) := by decide +kernel
theorem dX3_lettersFrom_8 : decode cX3_lettersFrom 8 = .ok (.aload_n 0, 1) := by decide +kernel
theorem dX3_lettersFrom_9 : decode cX3_lettersFrom 9 = .ok (.iload_n 1, 1) := by decide +kernel
theorem dX3_lettersFrom_10 : decode cX3_lettersFrom 10 = .ok (.iload_n 2, 1) := by decide +kernel
theorem dX3_lettersFrom_11 : decode cX3_lettersFrom 11 = .ok (.iadd, 1) := by decide +kernel
theorem dX3_lettersFrom_12 : decode cX3_lettersFrom 12 = .ok (.invokevirtual 105, 3) := by decide +kernel
theorem dX3_lettersFrom_15 : decode cX3_lettersFrom 15 = .ok (.bipush 97, 2) := by decide +kernel
theorem dX3_lettersFrom_17 : decode cX3_lettersFrom 17 = .ok (.bipush 122, 2) := by decide +kernel
theorem dX3_lettersFrom_19 : decode cX3_lettersFrom 19 = .ok (.invokestatic 15, 3) := by decide +kernel
theorem dX3_lettersFrom_22 : decode cX3_lettersFrom 22 = .ok (.ifCond .eq 9, 3) := by decide +kernel
theorem dX3_lettersFrom_25 : decode cX3_lettersFrom 25 = .ok (.iinc 2 1, 3) := by decide +kernel
theorem dX3_lettersFrom_28 : decode cX3_lettersFrom 28 = .ok (.goto (-26), 3) := by decide +kernel
theorem dX3_lettersFrom_31 : decode cX3_lettersFrom 31 = .ok (.iload_n 2, 1) := by decide +kernel
theorem dX3_lettersFrom_32 : decode cX3_lettersFrom 32 = .ok (.ireturn, 1) := by decide +kernel
theorem dX3_wordOf_0 : decode cX3_wordOf 0 = .ok (.iconst 0, 1) := by decide +kernel
theorem dX3_wordOf_1 : decode cX3_wordOf 1 = .ok (.istore_n 3, 1) := by decide +kernel
theorem dX3_wordOf_2 : decode cX3_wordOf 2 = .ok (.iload_n 3, 1) := by decide +kernel
theorem dX3_wordOf_3 : decode cX3_wordOf 3 = .ok (.bipush 8, 2) := by decide +kernel
theorem dX3_wordOf_5 : decode cX3_wordOf 5 = .ok (.if_icmp .ge 24, 3) := by decide +kernel
theorem dX3_wordOf_8 : decode cX3_wordOf 8 = .ok (.aload_n 0, 1) := by decide +kernel
theorem dX3_wordOf_9 : decode cX3_wordOf 9 = .ok (.iload_n 1, 1) := by decide +kernel
theorem dX3_wordOf_10 : decode cX3_wordOf 10 = .ok (.iload_n 2, 1) := by decide +kernel
theorem dX3_wordOf_11 : decode cX3_wordOf 11 = .ok (.iload_n 3, 1) := by decide +kernel
theorem dX3_wordOf_12 : decode cX3_wordOf 12 = .ok (.invokestatic 108, 3) := by decide +kernel
theorem dX3_wordOf_15 : decode cX3_wordOf 15 = .ok (.invokevirtual 112, 3) := by decide +kernel
theorem dX3_wordOf_18 : decode cX3_wordOf 18 = .ok (.ifCond .eq 5, 3) := by decide +kernel
theorem dX3_wordOf_21 : decode cX3_wordOf 21 = .ok (.iload_n 3, 1) := by decide +kernel
theorem dX3_wordOf_22 : decode cX3_wordOf 22 = .ok (.ireturn, 1) := by decide +kernel
theorem dX3_wordOf_23 : decode cX3_wordOf 23 = .ok (.iinc 3 1, 3) := by decide +kernel
theorem dX3_wordOf_26 : decode cX3_wordOf 26 = .ok (.goto (-24), 3) := by decide +kernel
theorem dX3_wordOf_29 : decode cX3_wordOf 29 = .ok (.iconst (-1), 1) := by decide +kernel
theorem dX3_wordOf_30 : decode cX3_wordOf 30 = .ok (.ireturn, 1) := by decide +kernel
theorem dX3_standsAt_0 : decode cX3_standsAt 0 = .ok (.aload_n 3, 1) := by decide +kernel
theorem dX3_standsAt_1 : decode cX3_standsAt 1 = .ok (.invokevirtual 116, 3) := by decide +kernel
theorem dX3_standsAt_4 : decode cX3_standsAt 4 = .ok (.iload_n 2, 1) := by decide +kernel
theorem dX3_standsAt_5 : decode cX3_standsAt 5 = .ok (.if_icmp .eq 5, 3) := by decide +kernel
theorem dX3_standsAt_8 : decode cX3_standsAt 8 = .ok (.iconst 0, 1) := by decide +kernel
theorem dX3_standsAt_9 : decode cX3_standsAt 9 = .ok (.ireturn, 1) := by decide +kernel
theorem dX3_standsAt_10 : decode cX3_standsAt 10 = .ok (.iconst 0, 1) := by decide +kernel
theorem dX3_standsAt_11 : decode cX3_standsAt 11 = .ok (.istore 4, 2) := by decide +kernel
theorem dX3_standsAt_13 : decode cX3_standsAt 13 = .ok (.iload 4, 2) := by decide +kernel
theorem dX3_standsAt_15 : decode cX3_standsAt 15 = .ok (.aload_n 3, 1) := by decide +kernel
theorem dX3_standsAt_16 : decode cX3_standsAt 16 = .ok (.invokevirtual 116, 3) := by decide +kernel
theorem dX3_standsAt_19 : decode cX3_standsAt 19 = .ok (.if_icmp .ge 28, 3) := by decide +kernel
theorem dX3_standsAt_22 : decode cX3_standsAt 22 = .ok (.aload_n 0, 1) := by decide +kernel
theorem dX3_standsAt_23 : decode cX3_standsAt 23 = .ok (.iload_n 1, 1) := by decide +kernel
theorem dX3_standsAt_24 : decode cX3_standsAt 24 = .ok (.iload 4, 2) := by decide +kernel
theorem dX3_standsAt_26 : decode cX3_standsAt 26 = .ok (.iadd, 1) := by decide +kernel
theorem dX3_standsAt_27 : decode cX3_standsAt 27 = .ok (.invokevirtual 105, 3) := by decide +kernel
theorem dX3_standsAt_30 : decode cX3_standsAt 30 = .ok (.aload_n 3, 1) := by decide +kernel
theorem dX3_standsAt_31 : decode cX3_standsAt 31 = .ok (.iload 4, 2) := by decide +kernel
theorem dX3_standsAt_33 : decode cX3_standsAt 33 = .ok (.invokevirtual 120, 3) := by decide +kernel
theorem dX3_standsAt_36 : decode cX3_standsAt 36 = .ok (.if_icmp .eq 5, 3) := by decide +kernel
theorem dX3_standsAt_39 : decode cX3_standsAt 39 = .ok (.iconst 0, 1) := by decide +kernel
theorem dX3_standsAt_40 : decode cX3_standsAt 40 = .ok (.ireturn, 1) := by decide +kernel
theorem dX3_standsAt_41 : decode cX3_standsAt 41 = .ok (.iinc 4 1, 3) := by decide +kernel
theorem dX3_standsAt_44 : decode cX3_standsAt 44 = .ok (.goto (-31), 3) := by decide +kernel
theorem dX3_standsAt_47 : decode cX3_standsAt 47 = .ok (.iconst 1, 1) := by decide +kernel
theorem dX3_standsAt_48 : decode cX3_standsAt 48 = .ok (.ireturn, 1) := by decide +kernel
theorem dX3_signAt_0 : decode cX3_signAt 0 = .ok (.iload_n 1, 1) := by decide +kernel
theorem dX3_signAt_1 : decode cX3_signAt 1 = .ok (.ifCond .lt 29, 3) := by decide +kernel
theorem dX3_signAt_4 : decode cX3_signAt 4 = .ok (.iload_n 1, 1) := by decide +kernel
theorem dX3_signAt_5 : decode cX3_signAt 5 = .ok (.aload_n 0, 1) := by decide +kernel
theorem dX3_signAt_6 : decode cX3_signAt 6 = .ok (.getfield 20, 3) := by decide +kernel
theorem dX3_signAt_9 : decode cX3_signAt 9 = .ok (.if_icmp .ge 21, 3) := by decide +kernel
theorem dX3_signAt_12 : decode cX3_signAt 12 = .ok (.iload_n 1, 1) := by decide +kernel
theorem dX3_signAt_13 : decode cX3_signAt 13 = .ok (.aload_n 0, 1) := by decide +kernel
theorem dX3_signAt_14 : decode cX3_signAt 14 = .ok (.getfield 9, 3) := by decide +kernel
theorem dX3_signAt_17 : decode cX3_signAt 17 = .ok (.arraylength, 1) := by decide +kernel
theorem dX3_signAt_18 : decode cX3_signAt 18 = .ok (.if_icmp .ge 12, 3) := by decide +kernel
theorem dX3_signAt_21 : decode cX3_signAt 21 = .ok (.aload_n 0, 1) := by decide +kernel
theorem dX3_signAt_22 : decode cX3_signAt 22 = .ok (.getfield 9, 3) := by decide +kernel
theorem dX3_signAt_25 : decode cX3_signAt 25 = .ok (.iload_n 1, 1) := by decide +kernel
theorem dX3_signAt_26 : decode cX3_signAt 26 = .ok (.caload, 1) := by decide +kernel
theorem dX3_signAt_27 : decode cX3_signAt 27 = .ok (.goto 4, 3) := by decide +kernel
theorem dX3_signAt_30 : decode cX3_signAt 30 = .ok (.iconst (-1), 1) := by decide +kernel
theorem dX3_signAt_31 : decode cX3_signAt 31 = .ok (.ireturn, 1) := by decide +kernel
theorem dX3_textOf_0 : decode cX3_textOf 0 = .ok (.iload_n 0, 1) := by decide +kernel
theorem dX3_textOf_1 : decode cX3_textOf 1 = .ok (.tableswitch 64 0 6 #[43, 46, 49, 52, 55, 58, 61], 43) := by decide +kernel
theorem dX3_textOf_44 : decode cX3_textOf 44 = .ok (.ldc 124, 2) := by decide +kernel
theorem dX3_textOf_46 : decode cX3_textOf 46 = .ok (.areturn, 1) := by decide +kernel
theorem dX3_textOf_47 : decode cX3_textOf 47 = .ok (.ldc 126, 2) := by decide +kernel
theorem dX3_textOf_49 : decode cX3_textOf 49 = .ok (.areturn, 1) := by decide +kernel
theorem dX3_textOf_50 : decode cX3_textOf 50 = .ok (.ldc 128, 2) := by decide +kernel
theorem dX3_textOf_52 : decode cX3_textOf 52 = .ok (.areturn, 1) := by decide +kernel
theorem dX3_textOf_53 : decode cX3_textOf 53 = .ok (.ldc 130, 2) := by decide +kernel
theorem dX3_textOf_55 : decode cX3_textOf 55 = .ok (.areturn, 1) := by decide +kernel
theorem dX3_textOf_56 : decode cX3_textOf 56 = .ok (.ldc 132, 2) := by decide +kernel
theorem dX3_textOf_58 : decode cX3_textOf 58 = .ok (.areturn, 1) := by decide +kernel
theorem dX3_textOf_59 : decode cX3_textOf 59 = .ok (.ldc 134, 2) := by decide +kernel
theorem dX3_textOf_61 : decode cX3_textOf 61 = .ok (.areturn, 1) := by decide +kernel
theorem dX3_textOf_62 : decode cX3_textOf 62 = .ok (.ldc 136, 2) := by decide +kernel
theorem dX3_textOf_64 : decode cX3_textOf 64 = .ok (.areturn, 1) := by decide +kernel
theorem dX3_textOf_65 : decode cX3_textOf 65 = .ok (.ldc 138, 2) := by decide +kernel
theorem dX3_textOf_67 : decode cX3_textOf 67 = .ok (.areturn, 1) := by decide +kernel
theorem dX4_init_0 : decode cX4_init 0 = .ok (.aload_n 0, 1) := by decide +kernel
theorem dX4_init_1 : decode cX4_init 1 = .ok (.invokespecial 3, 3) := by decide +kernel
theorem dX4_init_4 : decode cX4_init 4 = .ok (.aload_n 0, 1) := by decide +kernel
theorem dX4_init_5 : decode cX4_init 5 = .ok (.bipush 12, 2) := by decide +kernel
theorem dX4_init_7 : decode cX4_init 7 = .ok (.newarray .int, 2) := by decide +kernel
theorem dX4_init_9 : decode cX4_init 9 = .ok (.putfield 9, 3) := by decide +kernel
theorem dX4_init_12 : decode cX4_init 12 = .ok (.aload_n 0, 1) := by decide +kernel
theorem dX4_init_13 : decode cX4_init 13 = .ok (.bipush 12, 2) := by decide +kernel
theorem dX4_init_15 : decode cX4_init 15 = .ok (.newarray .int, 2) := by decide +kernel
theorem dX4_init_17 : decode cX4_init 17 = .ok (.putfield 15, 3) := by decide +kernel
theorem dX4_init_20 : decode cX4_init 20 = .ok (.aload_n 0, 1) := by decide +kernel
theorem dX4_init_21 : decode cX4_init 21 = .ok (.bipush 12, 2) := by decide +kernel
theorem dX4_init_23 : decode cX4_init 23 = .ok (.newarray .int, 2) := by decide +kernel
theorem dX4_init_25 : decode cX4_init 25 = .ok (.putfield 18, 3) := by decide +kernel
theorem dX4_init_28 : decode cX4_init 28 = .ok (.return_, 1) := by decide +kernel
theorem dX4_copyFrom_0 : decode cX4_copyFrom 0 = .ok (.aload_n 1, 1) := by decide +kernel
theorem dX4_copyFrom_1 : decode cX4_copyFrom 1 = .ok (.getfield 9, 3) := by decide +kernel
theorem dX4_copyFrom_4 : decode cX4_copyFrom 4 = .ok (.aload_n 0, 1) := by decide +kernel
theorem dX4_copyFrom_5 : decode cX4_copyFrom 5 = .ok (.getfield 9, 3) := by decide +kernel
theorem dX4_copyFrom_8 : decode cX4_copyFrom 8 = .ok (.invokestatic 21, 3) := by decide +kernel
theorem dX4_copyFrom_11 : decode cX4_copyFrom 11 = .ok (.aload_n 1, 1) := by decide +kernel
theorem dX4_copyFrom_12 : decode cX4_copyFrom 12 = .ok (.getfield 15, 3) := by decide +kernel
theorem dX4_copyFrom_15 : decode cX4_copyFrom 15 = .ok (.aload_n 0, 1) := by decide +kernel
theorem dX4_copyFrom_16 : decode cX4_copyFrom 16 = .ok (.getfield 15, 3) := by decide +kernel
theorem dX4_copyFrom_19 : decode cX4_copyFrom 19 = .ok (.invokestatic 21, 3) := by decide +kernel
theorem dX4_copyFrom_22 : decode cX4_copyFrom 22 = .ok (.aload_n 1, 1) := by decide +kernel
theorem dX4_copyFrom_23 : decode cX4_copyFrom 23 = .ok (.getfield 18, 3) := by decide +kernel
theorem dX4_copyFrom_26 : decode cX4_copyFrom 26 = .ok (.aload_n 0, 1) := by decide +kernel
theorem dX4_copyFrom_27 : decode cX4_copyFrom 27 = .ok (.getfield 18, 3) := by decide +kernel
theorem dX4_copyFrom_30 : decode cX4_copyFrom 30 = .ok (.invokestatic 21, 3) := by decide +kernel
theorem dX4_copyFrom_33 : decode cX4_copyFrom 33 = .ok (.aload_n 0, 1) := by decide +kernel
theorem dX4_copyFrom_34 : decode cX4_copyFrom 34 = .ok (.aload_n 1, 1) := by decide +kernel
theorem dX4_copyFrom_35 : decode cX4_copyFrom 35 = .ok (.getfield 27, 3) := by decide +kernel
theorem dX4_copyFrom_38 : decode cX4_copyFrom 38 = .ok (.putfield 27, 3) := by decide +kernel
theorem dX4_copyFrom_41 : decode cX4_copyFrom 41 = .ok (.return_, 1) := by decide +kernel
theorem dX4_add_0 : decode cX4_add 0 = .ok (.aload_n 0, 1) := by decide +kernel
theorem dX4_add_1 : decode cX4_add 1 = .ok (.getfield 27, 3) := by decide +kernel
theorem dX4_add_4 : decode cX4_add 4 = .ok (.ifCond .lt 12, 3) := by decide +kernel
theorem dX4_add_7 : decode cX4_add 7 = .ok (.aload_n 0, 1) := by decide +kernel
theorem dX4_add_8 : decode cX4_add 8 = .ok (.getfield 27, 3) := by decide +kernel
theorem dX4_add_11 : decode cX4_add 11 = .ok (.bipush 12, 2) := by decide +kernel
theorem dX4_add_13 : decode cX4_add 13 = .ok (.if_icmp .lt 6, 3) := by decide +kernel
theorem dX4_add_16 : decode cX4_add 16 = .ok (.ldc 31, 2) := by decide +kernel
theorem dX4_add_18 : decode cX4_add 18 = .ok (.ireturn, 1) := by decide +kernel
theorem dX4_add_19 : decode cX4_add 19 = .ok (.aload_n 0, 1) := by decide +kernel
theorem dX4_add_20 : decode cX4_add 20 = .ok (.getfield 9, 3) := by decide +kernel
theorem dX4_add_23 : decode cX4_add 23 = .ok (.aload_n 0, 1) := by decide +kernel
theorem dX4_add_24 : decode cX4_add 24 = .ok (.getfield 27, 3) := by decide +kernel
theorem dX4_add_27 : decode cX4_add 27 = .ok (.iload_n 1, 1) := by decide +kernel
theorem dX4_add_28 : decode cX4_add 28 = .ok (.iastore, 1) := by decide +kernel
theorem dX4_add_29 : decode cX4_add 29 = .ok (.aload_n 0, 1) := by decide +kernel
theorem dX4_add_30 : decode cX4_add 30 = .ok (.getfield 15, 3) := by decide +kernel
theorem dX4_add_33 : decode cX4_add 33 = .ok (.aload_n 0, 1) := by decide +kernel
theorem dX4_add_34 : decode cX4_add 34 = .ok (.getfield 27, 3) := by decide +kernel
theorem dX4_add_37 : decode cX4_add 37 = .ok (.iload_n 2, 1) := by decide +kernel
theorem dX4_add_38 : decode cX4_add 38 = .ok (.iastore, 1) := by decide +kernel
theorem dX4_add_39 : decode cX4_add 39 = .ok (.aload_n 0, 1) := by decide +kernel
theorem dX4_add_40 : decode cX4_add 40 = .ok (.getfield 18, 3) := by decide +kernel
theorem dX4_add_43 : decode cX4_add 43 = .ok (.aload_n 0, 1) := by decide +kernel
theorem dX4_add_44 : decode cX4_add 44 = .ok (.getfield 27, 3) := by decide +kernel
theorem dX4_add_47 : decode cX4_add 47 = .ok (.iload_n 3, 1) := by decide +kernel
theorem dX4_add_48 : decode cX4_add 48 = .ok (.iastore, 1) := by decide +kernel
theorem dX4_add_49 : decode cX4_add 49 = .ok (.aload_n 0, 1) := by decide +kernel
theorem dX4_add_50 : decode cX4_add 50 = .ok (.dup, 1) := by decide +kernel
theorem dX4_add_51 : decode cX4_add 51 = .ok (.getfield 27, 3) := by decide +kernel
theorem dX4_add_54 : decode cX4_add 54 = .ok (.iconst 1, 1) := by decide +kernel
theorem dX4_add_55 : decode cX4_add 55 = .ok (.iadd, 1) := by decide +kernel
theorem dX4_add_56 : decode cX4_add 56 = .ok (.putfield 27, 3) := by decide +kernel
theorem dX4_add_59 : decode cX4_add 59 = .ok (.aload_n 0, 1) := by decide +kernel
theorem dX4_add_60 : decode cX4_add 60 = .ok (.getfield 27, 3) := by decide +kernel
theorem dX4_add_63 : decode cX4_add 63 = .ok (.ireturn, 1) := by decide +kernel
theorem dX4_removeHeldBy_0 : decode cX4_removeHeldBy 0 = .ok (.aload_n 0, 1) := by decide +kernel
theorem dX4_removeHeldBy_1 : decode cX4_removeHeldBy 1 = .ok (.getfield 27, 3) := by decide +kernel
theorem dX4_removeHeldBy_4 : decode cX4_removeHeldBy 4 = .ok (.istore_n 3, 1) := by decide +kernel
theorem dX4_removeHeldBy_5 : decode cX4_removeHeldBy 5 = .ok (.aload_n 0, 1) := by decide +kernel
theorem dX4_removeHeldBy_6 : decode cX4_removeHeldBy 6 = .ok (.iconst 0, 1) := by decide +kernel
theorem dX4_removeHeldBy_7 : decode cX4_removeHeldBy 7 = .ok (.putfield 27, 3) := by decide +kernel
theorem dX4_removeHeldBy_10 : decode cX4_removeHeldBy 10 = .ok (.iconst 0, 1) := by decide +kernel
theorem dX4_removeHeldBy_11 : decode cX4_removeHeldBy 11 = .ok (.istore 4, 2) := by decide +kernel
theorem dX4_removeHeldBy_13 : decode cX4_removeHeldBy 13 = .ok (.iload 4, 2) := by decide +kernel
theorem dX4_removeHeldBy_15 : decode cX4_removeHeldBy 15 = .ok (.iload_n 3, 1) := by decide +kernel
theorem dX4_removeHeldBy_16 : decode cX4_removeHeldBy 16 = .ok (.if_icmp .ge 46, 3) := by decide +kernel
theorem dX4_removeHeldBy_19 : decode cX4_removeHeldBy 19 = .ok (.aload_n 2, 1) := by decide +kernel
theorem dX4_removeHeldBy_20 : decode cX4_removeHeldBy 20 = .ok (.aload_n 0, 1) := by decide +kernel
theorem dX4_removeHeldBy_21 : decode cX4_removeHeldBy 21 = .ok (.iload 4, 2) := by decide +kernel
theorem dX4_removeHeldBy_23 : decode cX4_removeHeldBy 23 = .ok (.invokevirtual 32, 3) := by decide +kernel
theorem dX4_removeHeldBy_26 : decode cX4_removeHeldBy 26 = .ok (.invokevirtual 36, 3) := by decide +kernel
theorem dX4_removeHeldBy_29 : decode cX4_removeHeldBy 29 = .ok (.iload_n 1, 1) := by decide +kernel
theorem dX4_removeHeldBy_30 : decode cX4_removeHeldBy 30 = .ok (.if_icmp .eq 26, 3) := by decide +kernel
theorem dX4_removeHeldBy_33 : decode cX4_removeHeldBy 33 = .ok (.aload_n 0, 1) := by decide +kernel
theorem dX4_removeHeldBy_34 : decode cX4_removeHeldBy 34 = .ok (.aload_n 0, 1) := by decide +kernel
theorem dX4_removeHeldBy_35 : decode cX4_removeHeldBy 35 = .ok (.iload 4, 2) := by decide +kernel
theorem dX4_removeHeldBy_37 : decode cX4_removeHeldBy 37 = .ok (.invokevirtual 32, 3) := by decide +kernel
theorem dX4_removeHeldBy_40 : decode cX4_removeHeldBy 40 = .ok (.aload_n 0, 1) := by decide +kernel
theorem dX4_removeHeldBy_41 : decode cX4_removeHeldBy 41 = .ok (.iload 4, 2) := by decide +kernel
theorem dX4_removeHeldBy_43 : decode cX4_removeHeldBy 43 = .ok (.invokevirtual 41, 3) := by decide +kernel
theorem dX4_removeHeldBy_46 : decode cX4_removeHeldBy 46 = .ok (.aload_n 0, 1) := by decide +kernel
theorem dX4_removeHeldBy_47 : decode cX4_removeHeldBy 47 = .ok (.iload 4, 2) := by decide +kernel
theorem dX4_removeHeldBy_49 : decode cX4_removeHeldBy 49 = .ok (.invokevirtual 44, 3) := by decide +kernel
theorem dX4_removeHeldBy_52 : decode cX4_removeHeldBy 52 = .ok (.invokevirtual 47, 3) := by decide +kernel
theorem dX4_removeHeldBy_55 : decode cX4_removeHeldBy 55 = .ok (.pop, 1) := by decide +kernel
theorem dX4_removeHeldBy_56 : decode cX4_removeHeldBy 56 = .ok (.iinc 4 1, 3) := by decide +kernel
theorem dX4_removeHeldBy_59 : decode cX4_removeHeldBy 59 = .ok (.goto (-46), 3) := by decide +kernel
theorem dX4_removeHeldBy_62 : decode cX4_removeHeldBy 62 = .ok (.iload_n 3, 1) := by decide +kernel
theorem dX4_removeHeldBy_63 : decode cX4_removeHeldBy 63 = .ok (.aload_n 0, 1) := by decide +kernel
theorem dX4_removeHeldBy_64 : decode cX4_removeHeldBy 64 = .ok (.getfield 27, 3) := by decide +kernel
theorem dX4_removeHeldBy_67 : decode cX4_removeHeldBy 67 = .ok (.isub, 1) := by decide +kernel
theorem dX4_removeHeldBy_68 : decode cX4_removeHeldBy 68 = .ok (.ireturn, 1) := by decide +kernel
theorem dX4_fileOf_0 : decode cX4_fileOf 0 = .ok (.iload_n 1, 1) := by decide +kernel
theorem dX4_fileOf_1 : decode cX4_fileOf 1 = .ok (.ifCond .lt 21, 3) := by decide +kernel
theorem dX4_fileOf_4 : decode cX4_fileOf 4 = .ok (.iload_n 1, 1) := by decide +kernel
theorem dX4_fileOf_5 : decode cX4_fileOf 5 = .ok (.aload_n 0, 1) := by decide +kernel
theorem dX4_fileOf_6 : decode cX4_fileOf 6 = .ok (.getfield 9, 3) := by decide +kernel
theorem dX4_fileOf_9 : decode cX4_fileOf 9 = .ok (.arraylength, 1) := by decide +kernel
theorem dX4_fileOf_10 : decode cX4_fileOf 10 = .ok (.if_icmp .ge 12, 3) := by decide +kernel
theorem dX4_fileOf_13 : decode cX4_fileOf 13 = .ok (.aload_n 0, 1) := by decide +kernel
theorem dX4_fileOf_14 : decode cX4_fileOf 14 = .ok (.getfield 9, 3) := by decide +kernel
theorem dX4_fileOf_17 : decode cX4_fileOf 17 = .ok (.iload_n 1, 1) := by decide +kernel
theorem dX4_fileOf_18 : decode cX4_fileOf 18 = .ok (.iaload, 1) := by decide +kernel
theorem dX4_fileOf_19 : decode cX4_fileOf 19 = .ok (.goto 4, 3) := by decide +kernel
theorem dX4_fileOf_22 : decode cX4_fileOf 22 = .ok (.iconst (-1), 1) := by decide +kernel
theorem dX4_fileOf_23 : decode cX4_fileOf 23 = .ok (.ireturn, 1) := by decide +kernel
theorem dX4_rankOf_0 : decode cX4_rankOf 0 = .ok (.iload_n 1, 1) := by decide +kernel
theorem dX4_rankOf_1 : decode cX4_rankOf 1 = .ok (.ifCond .lt 21, 3) := by decide +kernel
theorem dX4_rankOf_4 : decode cX4_rankOf 4 = .ok (.iload_n 1, 1) := by decide +kernel
theorem dX4_rankOf_5 : decode cX4_rankOf 5 = .ok (.aload_n 0, 1) := by decide +kernel
theorem dX4_rankOf_6 : decode cX4_rankOf 6 = .ok (.getfield 15, 3) := by decide +kernel
theorem dX4_rankOf_9 : decode cX4_rankOf 9 = .ok (.arraylength, 1) := by decide +kernel
theorem dX4_rankOf_10 : decode cX4_rankOf 10 = .ok (.if_icmp .ge 12, 3) := by decide +kernel
theorem dX4_rankOf_13 : decode cX4_rankOf 13 = .ok (.aload_n 0, 1) := by decide +kernel
theorem dX4_rankOf_14 : decode cX4_rankOf 14 = .ok (.getfield 15, 3) := by decide +kernel
theorem dX4_rankOf_17 : decode cX4_rankOf 17 = .ok (.iload_n 1, 1) := by decide +kernel
theorem dX4_rankOf_18 : decode cX4_rankOf 18 = .ok (.iaload, 1) := by decide +kernel
theorem dX4_rankOf_19 : decode cX4_rankOf 19 = .ok (.goto 4, 3) := by decide +kernel
theorem dX4_rankOf_22 : decode cX4_rankOf 22 = .ok (.iconst (-1), 1) := by decide +kernel
theorem dX4_rankOf_23 : decode cX4_rankOf 23 = .ok (.ireturn, 1) := by decide +kernel
theorem dX4_tickOf_0 : decode cX4_tickOf 0 = .ok (.iload_n 1, 1) := by decide +kernel
theorem dX4_tickOf_1 : decode cX4_tickOf 1 = .ok (.ifCond .lt 21, 3) := by decide +kernel
theorem dX4_tickOf_4 : decode cX4_tickOf 4 = .ok (.iload_n 1, 1) := by decide +kernel
theorem dX4_tickOf_5 : decode cX4_tickOf 5 = .ok (.aload_n 0, 1) := by decide +kernel
theorem dX4_tickOf_6 : decode cX4_tickOf 6 = .ok (.getfield 18, 3) := by decide +kernel
theorem dX4_tickOf_9 : decode cX4_tickOf 9 = .ok (.arraylength, 1) := by decide +kernel
theorem dX4_tickOf_10 : decode cX4_tickOf 10 = .ok (.if_icmp .ge 12, 3) := by decide +kernel
theorem dX4_tickOf_13 : decode cX4_tickOf 13 = .ok (.aload_n 0, 1) := by decide +kernel
theorem dX4_tickOf_14 : decode cX4_tickOf 14 = .ok (.getfield 18, 3) := by decide +kernel
theorem dX4_tickOf_17 : decode cX4_tickOf 17 = .ok (.iload_n 1, 1) := by decide +kernel
theorem dX4_tickOf_18 : decode cX4_tickOf 18 = .ok (.iaload, 1) := by decide +kernel
theorem dX4_tickOf_19 : decode cX4_tickOf 19 = .ok (.goto 4, 3) := by decide +kernel
theorem dX4_tickOf_22 : decode cX4_tickOf 22 = .ok (.iconst (-1), 1) := by decide +kernel
theorem dX4_tickOf_23 : decode cX4_tickOf 23 = .ok (.ireturn, 1) := by decide +kernel
theorem dX5_copy_0 : decode cX5_copy 0 = .ok (.aload_n 0, 1) := by decide +kernel
theorem dX5_copy_1 : decode cX5_copy 1 = .ok (.iconst 0, 1) := by decide +kernel
theorem dX5_copy_2 : decode cX5_copy 2 = .ok (.aload_n 1, 1) := by decide +kernel
theorem dX5_copy_3 : decode cX5_copy 3 = .ok (.iconst 0, 1) := by decide +kernel
theorem dX5_copy_4 : decode cX5_copy 4 = .ok (.aload_n 0, 1) := by decide +kernel
theorem dX5_copy_5 : decode cX5_copy 5 = .ok (.arraylength, 1) := by decide +kernel
theorem dX5_copy_6 : decode cX5_copy 6 = .ok (.aload_n 1, 1) := by decide +kernel
theorem dX5_copy_7 : decode cX5_copy 7 = .ok (.arraylength, 1) := by decide +kernel
theorem dX5_copy_8 : decode cX5_copy 8 = .ok (.invokestatic 7, 3) := by decide +kernel
theorem dX5_copy_11 : decode cX5_copy 11 = .ok (.invokestatic 13, 3) := by decide +kernel
theorem dX5_copy_14 : decode cX5_copy 14 = .ok (.return_, 1) := by decide +kernel
theorem dX5_howOften_0 : decode cX5_howOften 0 = .ok (.iconst 0, 1) := by decide +kernel
theorem dX5_howOften_1 : decode cX5_howOften 1 = .ok (.istore_n 2, 1) := by decide +kernel
theorem dX5_howOften_2 : decode cX5_howOften 2 = .ok (.aload_n 0, 1) := by decide +kernel
theorem dX5_howOften_3 : decode cX5_howOften 3 = .ok (.astore_n 3, 1) := by decide +kernel
theorem dX5_howOften_4 : decode cX5_howOften 4 = .ok (.aload_n 3, 1) := by decide +kernel
theorem dX5_howOften_5 : decode cX5_howOften 5 = .ok (.arraylength, 1) := by decide +kernel
theorem dX5_howOften_6 : decode cX5_howOften 6 = .ok (.istore 4, 2) := by decide +kernel
theorem dX5_howOften_8 : decode cX5_howOften 8 = .ok (.iconst 0, 1) := by decide +kernel
theorem dX5_howOften_9 : decode cX5_howOften 9 = .ok (.istore 5, 2) := by decide +kernel
theorem dX5_howOften_11 : decode cX5_howOften 11 = .ok (.iload 5, 2) := by decide +kernel
theorem dX5_howOften_13 : decode cX5_howOften 13 = .ok (.iload 4, 2) := by decide +kernel
theorem dX5_howOften_15 : decode cX5_howOften 15 = .ok (.if_icmp .ge 24, 3) := by decide +kernel
theorem dX5_howOften_18 : decode cX5_howOften 18 = .ok (.aload_n 3, 1) := by decide +kernel
theorem dX5_howOften_19 : decode cX5_howOften 19 = .ok (.iload 5, 2) := by decide +kernel
theorem dX5_howOften_21 : decode cX5_howOften 21 = .ok (.iaload, 1) := by decide +kernel
theorem dX5_howOften_22 : decode cX5_howOften 22 = .ok (.istore 6, 2) := by decide +kernel
theorem dX5_howOften_24 : decode cX5_howOften 24 = .ok (.iload 6, 2) := by decide +kernel
theorem dX5_howOften_26 : decode cX5_howOften 26 = .ok (.iload_n 1, 1) := by decide +kernel
theorem dX5_howOften_27 : decode cX5_howOften 27 = .ok (.if_icmp .ne 6, 3) := by decide +kernel
theorem dX5_howOften_30 : decode cX5_howOften 30 = .ok (.iinc 2 1, 3) := by decide +kernel
theorem dX5_howOften_33 : decode cX5_howOften 33 = .ok (.iinc 5 1, 3) := by decide +kernel
theorem dX5_howOften_36 : decode cX5_howOften 36 = .ok (.goto (-25), 3) := by decide +kernel
theorem dX5_howOften_39 : decode cX5_howOften 39 = .ok (.iload_n 2, 1) := by decide +kernel
theorem dX5_howOften_40 : decode cX5_howOften 40 = .ok (.ireturn, 1) := by decide +kernel
theorem dX6_init_0 : decode cX6_init 0 = .ok (.aload_n 0, 1) := by decide +kernel
theorem dX6_init_1 : decode cX6_init 1 = .ok (.invokespecial 3, 3) := by decide +kernel
theorem dX6_init_4 : decode cX6_init 4 = .ok (.aload_n 0, 1) := by decide +kernel
theorem dX6_init_5 : decode cX6_init 5 = .ok (.new 9, 3) := by decide +kernel
theorem dX6_init_8 : decode cX6_init 8 = .ok (.dup, 1) := by decide +kernel
theorem dX6_init_9 : decode cX6_init 9 = .ok (.invokespecial 11, 3) := by decide +kernel
theorem dX6_init_12 : decode cX6_init 12 = .ok (.putfield 12, 3) := by decide +kernel
theorem dX6_init_15 : decode cX6_init 15 = .ok (.aload_n 0, 1) := by decide +kernel
theorem dX6_init_16 : decode cX6_init 16 = .ok (.new 9, 3) := by decide +kernel
theorem dX6_init_19 : decode cX6_init 19 = .ok (.dup, 1) := by decide +kernel
theorem dX6_init_20 : decode cX6_init 20 = .ok (.invokespecial 11, 3) := by decide +kernel
theorem dX6_init_23 : decode cX6_init 23 = .ok (.putfield 16, 3) := by decide +kernel
theorem dX6_init_26 : decode cX6_init 26 = .ok (.aload_n 0, 1) := by decide +kernel
theorem dX6_init_27 : decode cX6_init 27 = .ok (.new 19, 3) := by decide +kernel
theorem dX6_init_30 : decode cX6_init 30 = .ok (.dup, 1) := by decide +kernel
theorem dX6_init_31 : decode cX6_init 31 = .ok (.invokespecial 21, 3) := by decide +kernel
theorem dX6_init_34 : decode cX6_init 34 = .ok (.putfield 22, 3) := by decide +kernel
theorem dX6_init_37 : decode cX6_init 37 = .ok (.aload_n 0, 1) := by decide +kernel
theorem dX6_init_38 : decode cX6_init 38 = .ok (.new 26, 3) := by decide +kernel
theorem dX6_init_41 : decode cX6_init 41 = .ok (.dup, 1) := by decide +kernel
theorem dX6_init_42 : decode cX6_init 42 = .ok (.invokespecial 28, 3) := by decide +kernel
theorem dX6_init_45 : decode cX6_init 45 = .ok (.putfield 29, 3) := by decide +kernel
theorem dX6_init_48 : decode cX6_init 48 = .ok (.return_, 1) := by decide +kernel
theorem dX6_bring_0 : decode cX6_bring 0 = .ok (.aload_n 0, 1) := by decide +kernel
theorem dX6_bring_1 : decode cX6_bring 1 = .ok (.aload_n 0, 1) := by decide +kernel
theorem dX6_bring_2 : decode cX6_bring 2 = .ok (.invokevirtual 33, 3) := by decide +kernel
theorem dX6_bring_5 : decode cX6_bring 5 = .ok (.iload_n 1, 1) := by decide +kernel
theorem dX6_bring_6 : decode cX6_bring 6 = .ok (.iload_n 2, 1) := by decide +kernel
theorem dX6_bring_7 : decode cX6_bring 7 = .ok (.iload_n 3, 1) := by decide +kernel
theorem dX6_bring_8 : decode cX6_bring 8 = .ok (.invokevirtual 37, 3) := by decide +kernel
theorem dX6_bring_11 : decode cX6_bring 11 = .ok (.invokevirtual 41, 3) := by decide +kernel
theorem dX6_bring_14 : decode cX6_bring 14 = .ok (.ireturn, 1) := by decide +kernel
theorem dX6_send_0 : decode cX6_send 0 = .ok (.aload_n 0, 1) := by decide +kernel
theorem dX6_send_1 : decode cX6_send 1 = .ok (.aload_n 0, 1) := by decide +kernel
theorem dX6_send_2 : decode cX6_send 2 = .ok (.invokevirtual 33, 3) := by decide +kernel
theorem dX6_send_5 : decode cX6_send 5 = .ok (.iload_n 1, 1) := by decide +kernel
theorem dX6_send_6 : decode cX6_send 6 = .ok (.iload_n 2, 1) := by decide +kernel
theorem dX6_send_7 : decode cX6_send 7 = .ok (.iload_n 3, 1) := by decide +kernel
theorem dX6_send_8 : decode cX6_send 8 = .ok (.invokevirtual 45, 3) := by decide +kernel
theorem dX6_send_11 : decode cX6_send 11 = .ok (.invokevirtual 41, 3) := by decide +kernel
theorem dX6_send_14 : decode cX6_send 14 = .ok (.ireturn, 1) := by decide +kernel
theorem dX6_lift_0 : decode cX6_lift 0 = .ok (.aload_n 0, 1) := by decide +kernel
theorem dX6_lift_1 : decode cX6_lift 1 = .ok (.aload_n 0, 1) := by decide +kernel
theorem dX6_lift_2 : decode cX6_lift 2 = .ok (.invokevirtual 33, 3) := by decide +kernel
theorem dX6_lift_5 : decode cX6_lift 5 = .ok (.iload_n 1, 1) := by decide +kernel
theorem dX6_lift_6 : decode cX6_lift 6 = .ok (.invokevirtual 48, 3) := by decide +kernel
theorem dX6_lift_9 : decode cX6_lift 9 = .ok (.invokevirtual 41, 3) := by decide +kernel
theorem dX6_lift_12 : decode cX6_lift 12 = .ok (.ireturn, 1) := by decide +kernel
theorem dX6_lay_0 : decode cX6_lay 0 = .ok (.aload_n 0, 1) := by decide +kernel
theorem dX6_lay_1 : decode cX6_lay 1 = .ok (.aload_n 0, 1) := by decide +kernel
theorem dX6_lay_2 : decode cX6_lay 2 = .ok (.invokevirtual 33, 3) := by decide +kernel
theorem dX6_lay_5 : decode cX6_lay 5 = .ok (.iload_n 1, 1) := by decide +kernel
theorem dX6_lay_6 : decode cX6_lay 6 = .ok (.invokevirtual 51, 3) := by decide +kernel
theorem dX6_lay_9 : decode cX6_lay 9 = .ok (.invokevirtual 41, 3) := by decide +kernel
theorem dX6_lay_12 : decode cX6_lay 12 = .ok (.ireturn, 1) := by decide +kernel
theorem dX6_weigh_0 : decode cX6_weigh 0 = .ok (.aload_n 0, 1) := by decide +kernel
theorem dX6_weigh_1 : decode cX6_weigh 1 = .ok (.aload_n 0, 1) := by decide +kernel
theorem dX6_weigh_2 : decode cX6_weigh 2 = .ok (.invokevirtual 33, 3) := by decide +kernel
theorem dX6_weigh_5 : decode cX6_weigh 5 = .ok (.invokevirtual 54, 3) := by decide +kernel
theorem dX6_weigh_8 : decode cX6_weigh 8 = .ok (.invokevirtual 41, 3) := by decide +kernel
theorem dX6_weigh_11 : decode cX6_weigh 11 = .ok (.ireturn, 1) := by decide +kernel
theorem dX6_turn_0 : decode cX6_turn 0 = .ok (.aload_n 0, 1) := by decide +kernel
theorem dX6_turn_1 : decode cX6_turn 1 = .ok (.aload_n 0, 1) := by decide +kernel
theorem dX6_turn_2 : decode cX6_turn 2 = .ok (.invokevirtual 33, 3) := by decide +kernel
theorem dX6_turn_5 : decode cX6_turn 5 = .ok (.iload_n 1, 1) := by decide +kernel
theorem dX6_turn_6 : decode cX6_turn 6 = .ok (.invokevirtual 58, 3) := by decide +kernel
theorem dX6_turn_9 : decode cX6_turn 9 = .ok (.invokevirtual 41, 3) := by decide +kernel
theorem dX6_turn_12 : decode cX6_turn 12 = .ok (.ireturn, 1) := by decide +kernel
theorem dX6_mount_0 : decode cX6_mount 0 = .ok (.aload_n 0, 1) := by decide +kernel
theorem dX6_mount_1 : decode cX6_mount 1 = .ok (.aload_n 0, 1) := by decide +kernel
theorem dX6_mount_2 : decode cX6_mount 2 = .ok (.invokevirtual 33, 3) := by decide +kernel
theorem dX6_mount_5 : decode cX6_mount 5 = .ok (.iload_n 1, 1) := by decide +kernel
theorem dX6_mount_6 : decode cX6_mount 6 = .ok (.invokevirtual 61, 3) := by decide +kernel
theorem dX6_mount_9 : decode cX6_mount 9 = .ok (.invokevirtual 41, 3) := by decide +kernel
theorem dX6_mount_12 : decode cX6_mount 12 = .ok (.ireturn, 1) := by decide +kernel
theorem dX6_take_0 : decode cX6_take 0 = .ok (.aload_n 0, 1) := by decide +kernel
theorem dX6_take_1 : decode cX6_take 1 = .ok (.aload_n 0, 1) := by decide +kernel
theorem dX6_take_2 : decode cX6_take 2 = .ok (.invokevirtual 33, 3) := by decide +kernel
theorem dX6_take_5 : decode cX6_take 5 = .ok (.iload_n 1, 1) := by decide +kernel
theorem dX6_take_6 : decode cX6_take 6 = .ok (.invokevirtual 64, 3) := by decide +kernel
theorem dX6_take_9 : decode cX6_take 9 = .ok (.invokevirtual 41, 3) := by decide +kernel
theorem dX6_take_12 : decode cX6_take 12 = .ok (.ireturn, 1) := by decide +kernel
theorem dX6_hold_0 : decode cX6_hold 0 = .ok (.aload_n 0, 1) := by decide +kernel
theorem dX6_hold_1 : decode cX6_hold 1 = .ok (.aload_n 0, 1) := by decide +kernel
theorem dX6_hold_2 : decode cX6_hold 2 = .ok (.invokevirtual 33, 3) := by decide +kernel
theorem dX6_hold_5 : decode cX6_hold 5 = .ok (.iload_n 1, 1) := by decide +kernel
theorem dX6_hold_6 : decode cX6_hold 6 = .ok (.iload_n 2, 1) := by decide +kernel
theorem dX6_hold_7 : decode cX6_hold 7 = .ok (.invokevirtual 67, 3) := by decide +kernel
theorem dX6_hold_10 : decode cX6_hold 10 = .ok (.invokevirtual 41, 3) := by decide +kernel
theorem dX6_hold_13 : decode cX6_hold 13 = .ok (.ireturn, 1) := by decide +kernel
theorem dX6_request_0 : decode cX6_request 0 = .ok (.aload_n 0, 1) := by decide +kernel
theorem dX6_request_1 : decode cX6_request 1 = .ok (.aload_n 0, 1) := by decide +kernel
theorem dX6_request_2 : decode cX6_request 2 = .ok (.invokevirtual 33, 3) := by decide +kernel
theorem dX6_request_5 : decode cX6_request 5 = .ok (.iload_n 1, 1) := by decide +kernel
theorem dX6_request_6 : decode cX6_request 6 = .ok (.iload_n 2, 1) := by decide +kernel
theorem dX6_request_7 : decode cX6_request 7 = .ok (.invokevirtual 71, 3) := by decide +kernel
theorem dX6_request_10 : decode cX6_request 10 = .ok (.invokevirtual 41, 3) := by decide +kernel
theorem dX6_request_13 : decode cX6_request 13 = .ok (.ireturn, 1) := by decide +kernel
theorem dX6_serve_0 : decode cX6_serve 0 = .ok (.aload_n 0, 1) := by decide +kernel
theorem dX6_serve_1 : decode cX6_serve 1 = .ok (.aload_n 0, 1) := by decide +kernel
theorem dX6_serve_2 : decode cX6_serve 2 = .ok (.invokevirtual 33, 3) := by decide +kernel
theorem dX6_serve_5 : decode cX6_serve 5 = .ok (.iload_n 1, 1) := by decide +kernel
theorem dX6_serve_6 : decode cX6_serve 6 = .ok (.invokevirtual 74, 3) := by decide +kernel
theorem dX6_serve_9 : decode cX6_serve 9 = .ok (.invokevirtual 41, 3) := by decide +kernel
theorem dX6_serve_12 : decode cX6_serve 12 = .ok (.ireturn, 1) := by decide +kernel
theorem dX6_cartridgeOf_0 : decode cX6_cartridgeOf 0 = .ok (.aload_n 0, 1) := by decide +kernel
theorem dX6_cartridgeOf_1 : decode cX6_cartridgeOf 1 = .ok (.getfield 12, 3) := by decide +kernel
theorem dX6_cartridgeOf_4 : decode cX6_cartridgeOf 4 = .ok (.getfield 77, 3) := by decide +kernel
theorem dX6_cartridgeOf_7 : decode cX6_cartridgeOf 7 = .ok (.iload_n 1, 1) := by decide +kernel
theorem dX6_cartridgeOf_8 : decode cX6_cartridgeOf 8 = .ok (.invokevirtual 81, 3) := by decide +kernel
theorem dX6_cartridgeOf_11 : decode cX6_cartridgeOf 11 = .ok (.ifCond .ne 6, 3) := by decide +kernel
theorem dX6_cartridgeOf_14 : decode cX6_cartridgeOf 14 = .ok (.ldc 87, 2) := by decide +kernel
theorem dX6_cartridgeOf_16 : decode cX6_cartridgeOf 16 = .ok (.ireturn, 1) := by decide +kernel
theorem dX6_cartridgeOf_17 : decode cX6_cartridgeOf 17 = .ok (.iload_n 2, 1) := by decide +kernel
theorem dX6_cartridgeOf_18 : decode cX6_cartridgeOf 18 = .ok (.tableswitch 123 0 6 #[42, 54, 66, 78, 90, 102, 111], 42) := by decide +kernel
theorem dX6_cartridgeOf_60 : decode cX6_cartridgeOf 60 = .ok (.aload_n 0, 1) := by decide +kernel
theorem dX6_cartridgeOf_61 : decode cX6_cartridgeOf 61 = .ok (.getfield 12, 3) := by decide +kernel
theorem dX6_cartridgeOf_64 : decode cX6_cartridgeOf 64 = .ok (.getfield 77, 3) := by decide +kernel
theorem dX6_cartridgeOf_67 : decode cX6_cartridgeOf 67 = .ok (.iload_n 1, 1) := by decide +kernel
theorem dX6_cartridgeOf_68 : decode cX6_cartridgeOf 68 = .ok (.invokevirtual 88, 3) := by decide +kernel
theorem dX6_cartridgeOf_71 : decode cX6_cartridgeOf 71 = .ok (.ireturn, 1) := by decide +kernel
theorem dX6_cartridgeOf_72 : decode cX6_cartridgeOf 72 = .ok (.aload_n 0, 1) := by decide +kernel
theorem dX6_cartridgeOf_73 : decode cX6_cartridgeOf 73 = .ok (.getfield 12, 3) := by decide +kernel
theorem dX6_cartridgeOf_76 : decode cX6_cartridgeOf 76 = .ok (.getfield 77, 3) := by decide +kernel
theorem dX6_cartridgeOf_79 : decode cX6_cartridgeOf 79 = .ok (.iload_n 1, 1) := by decide +kernel
theorem dX6_cartridgeOf_80 : decode cX6_cartridgeOf 80 = .ok (.invokevirtual 91, 3) := by decide +kernel
theorem dX6_cartridgeOf_83 : decode cX6_cartridgeOf 83 = .ok (.ireturn, 1) := by decide +kernel
theorem dX6_cartridgeOf_84 : decode cX6_cartridgeOf 84 = .ok (.aload_n 0, 1) := by decide +kernel
theorem dX6_cartridgeOf_85 : decode cX6_cartridgeOf 85 = .ok (.getfield 12, 3) := by decide +kernel
theorem dX6_cartridgeOf_88 : decode cX6_cartridgeOf 88 = .ok (.getfield 77, 3) := by decide +kernel
theorem dX6_cartridgeOf_91 : decode cX6_cartridgeOf 91 = .ok (.iload_n 1, 1) := by decide +kernel
theorem dX6_cartridgeOf_92 : decode cX6_cartridgeOf 92 = .ok (.invokevirtual 94, 3) := by decide +kernel
theorem dX6_cartridgeOf_95 : decode cX6_cartridgeOf 95 = .ok (.ireturn, 1) := by decide +kernel
theorem dX6_cartridgeOf_96 : decode cX6_cartridgeOf 96 = .ok (.aload_n 0, 1) := by decide +kernel
theorem dX6_cartridgeOf_97 : decode cX6_cartridgeOf 97 = .ok (.getfield 12, 3) := by decide +kernel
theorem dX6_cartridgeOf_100 : decode cX6_cartridgeOf 100 = .ok (.getfield 77, 3) := by decide +kernel
theorem dX6_cartridgeOf_103 : decode cX6_cartridgeOf 103 = .ok (.iload_n 1, 1) := by decide +kernel
theorem dX6_cartridgeOf_104 : decode cX6_cartridgeOf 104 = .ok (.invokevirtual 97, 3) := by decide +kernel
theorem dX6_cartridgeOf_107 : decode cX6_cartridgeOf 107 = .ok (.ireturn, 1) := by decide +kernel
theorem dX6_cartridgeOf_108 : decode cX6_cartridgeOf 108 = .ok (.aload_n 0, 1) := by decide +kernel
theorem dX6_cartridgeOf_109 : decode cX6_cartridgeOf 109 = .ok (.getfield 12, 3) := by decide +kernel
theorem dX6_cartridgeOf_112 : decode cX6_cartridgeOf 112 = .ok (.getfield 77, 3) := by decide +kernel
theorem dX6_cartridgeOf_115 : decode cX6_cartridgeOf 115 = .ok (.iload_n 1, 1) := by decide +kernel
theorem dX6_cartridgeOf_116 : decode cX6_cartridgeOf 116 = .ok (.invokevirtual 100, 3) := by decide +kernel
theorem dX6_cartridgeOf_119 : decode cX6_cartridgeOf 119 = .ok (.ireturn, 1) := by decide +kernel
theorem dX6_cartridgeOf_120 : decode cX6_cartridgeOf 120 = .ok (.aload_n 0, 1) := by decide +kernel
theorem dX6_cartridgeOf_121 : decode cX6_cartridgeOf 121 = .ok (.getfield 12, 3) := by decide +kernel
theorem dX6_cartridgeOf_124 : decode cX6_cartridgeOf 124 = .ok (.iload_n 1, 1) := by decide +kernel
theorem dX6_cartridgeOf_125 : decode cX6_cartridgeOf 125 = .ok (.invokevirtual 103, 3) := by decide +kernel
theorem dX6_cartridgeOf_128 : decode cX6_cartridgeOf 128 = .ok (.ireturn, 1) := by decide +kernel
theorem dX6_cartridgeOf_129 : decode cX6_cartridgeOf 129 = .ok (.aload_n 0, 1) := by decide +kernel
theorem dX6_cartridgeOf_130 : decode cX6_cartridgeOf 130 = .ok (.getfield 12, 3) := by decide +kernel
theorem dX6_cartridgeOf_133 : decode cX6_cartridgeOf 133 = .ok (.getfield 77, 3) := by decide +kernel
theorem dX6_cartridgeOf_136 : decode cX6_cartridgeOf 136 = .ok (.iload_n 1, 1) := by decide +kernel
theorem dX6_cartridgeOf_137 : decode cX6_cartridgeOf 137 = .ok (.invokevirtual 106, 3) := by decide +kernel
theorem dX6_cartridgeOf_140 : decode cX6_cartridgeOf 140 = .ok (.ireturn, 1) := by decide +kernel
theorem dX6_cartridgeOf_141 : decode cX6_cartridgeOf 141 = .ok (.ldc 87, 2) := by decide +kernel
theorem dX6_cartridgeOf_143 : decode cX6_cartridgeOf 143 = .ok (.ireturn, 1) := by decide +kernel
theorem dX6_shelfOf_0 : decode cX6_shelfOf 0 = .ok (.iload_n 1, 1) := by decide +kernel
theorem dX6_shelfOf_1 : decode cX6_shelfOf 1 = .ok (.iload_n 2, 1) := by decide +kernel
theorem dX6_shelfOf_2 : decode cX6_shelfOf 2 = .ok (.invokestatic 109, 3) := by decide +kernel
theorem dX6_shelfOf_5 : decode cX6_shelfOf 5 = .ok (.ifCond .ne 6, 3) := by decide +kernel
theorem dX6_shelfOf_8 : decode cX6_shelfOf 8 = .ok (.ldc 87, 2) := by decide +kernel
theorem dX6_shelfOf_10 : decode cX6_shelfOf 10 = .ok (.ireturn, 1) := by decide +kernel
theorem dX6_shelfOf_11 : decode cX6_shelfOf 11 = .ok (.aload_n 0, 1) := by decide +kernel
theorem dX6_shelfOf_12 : decode cX6_shelfOf 12 = .ok (.getfield 12, 3) := by decide +kernel
theorem dX6_shelfOf_15 : decode cX6_shelfOf 15 = .ok (.getfield 77, 3) := by decide +kernel
theorem dX6_shelfOf_18 : decode cX6_shelfOf 18 = .ok (.iload_n 1, 1) := by decide +kernel
theorem dX6_shelfOf_19 : decode cX6_shelfOf 19 = .ok (.iload_n 2, 1) := by decide +kernel
theorem dX6_shelfOf_20 : decode cX6_shelfOf 20 = .ok (.invokestatic 113, 3) := by decide +kernel
theorem dX6_shelfOf_23 : decode cX6_shelfOf 23 = .ok (.invokevirtual 116, 3) := by decide +kernel
theorem dX6_shelfOf_26 : decode cX6_shelfOf 26 = .ok (.invokestatic 119, 3) := by decide +kernel
theorem dX6_shelfOf_29 : decode cX6_shelfOf 29 = .ok (.ireturn, 1) := by decide +kernel
theorem dX6_holder_0 : decode cX6_holder 0 = .ok (.iload_n 1, 1) := by decide +kernel
theorem dX6_holder_1 : decode cX6_holder 1 = .ok (.iconst 0, 1) := by decide +kernel
theorem dX6_holder_2 : decode cX6_holder 2 = .ok (.bipush 59, 2) := by decide +kernel
theorem dX6_holder_4 : decode cX6_holder 4 = .ok (.invokestatic 122, 3) := by decide +kernel
theorem dX6_holder_7 : decode cX6_holder 7 = .ok (.ifCond .ne 6, 3) := by decide +kernel
theorem dX6_holder_10 : decode cX6_holder 10 = .ok (.ldc 87, 2) := by decide +kernel
theorem dX6_holder_12 : decode cX6_holder 12 = .ok (.ireturn, 1) := by decide +kernel
theorem dX6_holder_13 : decode cX6_holder 13 = .ok (.aload_n 0, 1) := by decide +kernel
theorem dX6_holder_14 : decode cX6_holder 14 = .ok (.getfield 12, 3) := by decide +kernel
theorem dX6_holder_17 : decode cX6_holder 17 = .ok (.getfield 77, 3) := by decide +kernel
theorem dX6_holder_20 : decode cX6_holder 20 = .ok (.iload_n 1, 1) := by decide +kernel
theorem dX6_holder_21 : decode cX6_holder 21 = .ok (.invokevirtual 126, 3) := by decide +kernel
theorem dX6_holder_24 : decode cX6_holder 24 = .ok (.invokestatic 119, 3) := by decide +kernel
theorem dX6_holder_27 : decode cX6_holder 27 = .ok (.ireturn, 1) := by decide +kernel
theorem dX6_requestOf_0 : decode cX6_requestOf 0 = .ok (.iload_n 1, 1) := by decide +kernel
theorem dX6_requestOf_1 : decode cX6_requestOf 1 = .ok (.ifCond .lt 12, 3) := by decide +kernel
theorem dX6_requestOf_4 : decode cX6_requestOf 4 = .ok (.iload_n 2, 1) := by decide +kernel
theorem dX6_requestOf_5 : decode cX6_requestOf 5 = .ok (.iconst 0, 1) := by decide +kernel
theorem dX6_requestOf_6 : decode cX6_requestOf 6 = .ok (.iconst 2, 1) := by decide +kernel
theorem dX6_requestOf_7 : decode cX6_requestOf 7 = .ok (.invokestatic 122, 3) := by decide +kernel
theorem dX6_requestOf_10 : decode cX6_requestOf 10 = .ok (.ifCond .ne 6, 3) := by decide +kernel
theorem dX6_requestOf_13 : decode cX6_requestOf 13 = .ok (.ldc 87, 2) := by decide +kernel
theorem dX6_requestOf_15 : decode cX6_requestOf 15 = .ok (.ireturn, 1) := by decide +kernel
theorem dX6_requestOf_16 : decode cX6_requestOf 16 = .ok (.iload_n 1, 1) := by decide +kernel
theorem dX6_requestOf_17 : decode cX6_requestOf 17 = .ok (.aload_n 0, 1) := by decide +kernel
theorem dX6_requestOf_18 : decode cX6_requestOf 18 = .ok (.getfield 12, 3) := by decide +kernel
theorem dX6_requestOf_21 : decode cX6_requestOf 21 = .ok (.getfield 129, 3) := by decide +kernel
theorem dX6_requestOf_24 : decode cX6_requestOf 24 = .ok (.getfield 133, 3) := by decide +kernel
theorem dX6_requestOf_27 : decode cX6_requestOf 27 = .ok (.if_icmp .lt 6, 3) := by decide +kernel
theorem dX6_requestOf_30 : decode cX6_requestOf 30 = .ok (.ldc 139, 2) := by decide +kernel
theorem dX6_requestOf_32 : decode cX6_requestOf 32 = .ok (.ireturn, 1) := by decide +kernel
theorem dX6_requestOf_33 : decode cX6_requestOf 33 = .ok (.iload_n 2, 1) := by decide +kernel
theorem dX6_requestOf_34 : decode cX6_requestOf 34 = .ok (.lookupswitch 50 #[(0, 26), (1, 38)], 26) := by decide +kernel
theorem dX6_requestOf_60 : decode cX6_requestOf 60 = .ok (.aload_n 0, 1) := by decide +kernel
theorem dX6_requestOf_61 : decode cX6_requestOf 61 = .ok (.getfield 12, 3) := by decide +kernel
theorem dX6_requestOf_64 : decode cX6_requestOf 64 = .ok (.getfield 129, 3) := by decide +kernel
theorem dX6_requestOf_67 : decode cX6_requestOf 67 = .ok (.iload_n 1, 1) := by decide +kernel
theorem dX6_requestOf_68 : decode cX6_requestOf 68 = .ok (.invokevirtual 140, 3) := by decide +kernel
theorem dX6_requestOf_71 : decode cX6_requestOf 71 = .ok (.ireturn, 1) := by decide +kernel
theorem dX6_requestOf_72 : decode cX6_requestOf 72 = .ok (.aload_n 0, 1) := by decide +kernel
theorem dX6_requestOf_73 : decode cX6_requestOf 73 = .ok (.getfield 12, 3) := by decide +kernel
theorem dX6_requestOf_76 : decode cX6_requestOf 76 = .ok (.getfield 129, 3) := by decide +kernel
theorem dX6_requestOf_79 : decode cX6_requestOf 79 = .ok (.iload_n 1, 1) := by decide +kernel
theorem dX6_requestOf_80 : decode cX6_requestOf 80 = .ok (.invokevirtual 143, 3) := by decide +kernel
theorem dX6_requestOf_83 : decode cX6_requestOf 83 = .ok (.ireturn, 1) := by decide +kernel
theorem dX6_requestOf_84 : decode cX6_requestOf 84 = .ok (.aload_n 0, 1) := by decide +kernel
theorem dX6_requestOf_85 : decode cX6_requestOf 85 = .ok (.getfield 12, 3) := by decide +kernel
theorem dX6_requestOf_88 : decode cX6_requestOf 88 = .ok (.getfield 129, 3) := by decide +kernel
theorem dX6_requestOf_91 : decode cX6_requestOf 91 = .ok (.iload_n 1, 1) := by decide +kernel
theorem dX6_requestOf_92 : decode cX6_requestOf 92 = .ok (.invokevirtual 146, 3) := by decide +kernel
theorem dX6_requestOf_95 : decode cX6_requestOf 95 = .ok (.ireturn, 1) := by decide +kernel
theorem dX6_nextBy_0 : decode cX6_nextBy 0 = .ok (.iload_n 1, 1) := by decide +kernel
theorem dX6_nextBy_1 : decode cX6_nextBy 1 = .ok (.invokestatic 149, 3) := by decide +kernel
theorem dX6_nextBy_4 : decode cX6_nextBy 4 = .ok (.ifCond .ne 6, 3) := by decide +kernel
theorem dX6_nextBy_7 : decode cX6_nextBy 7 = .ok (.ldc 87, 2) := by decide +kernel
theorem dX6_nextBy_9 : decode cX6_nextBy 9 = .ok (.ireturn, 1) := by decide +kernel
theorem dX6_nextBy_10 : decode cX6_nextBy 10 = .ok (.aload_n 0, 1) := by decide +kernel
theorem dX6_nextBy_11 : decode cX6_nextBy 11 = .ok (.getfield 12, 3) := by decide +kernel
theorem dX6_nextBy_14 : decode cX6_nextBy 14 = .ok (.iload_n 1, 1) := by decide +kernel
theorem dX6_nextBy_15 : decode cX6_nextBy 15 = .ok (.invokevirtual 152, 3) := by decide +kernel
theorem dX6_nextBy_18 : decode cX6_nextBy 18 = .ok (.invokestatic 119, 3) := by decide +kernel
theorem dX6_nextBy_21 : decode cX6_nextBy 21 = .ok (.ireturn, 1) := by decide +kernel
theorem dX6_would_0 : decode cX6_would 0 = .ok (.iload_n 1, 1) := by decide +kernel
theorem dX6_would_1 : decode cX6_would 1 = .ok (.invokestatic 149, 3) := by decide +kernel
theorem dX6_would_4 : decode cX6_would 4 = .ok (.ifCond .eq 12, 3) := by decide +kernel
theorem dX6_would_7 : decode cX6_would 7 = .ok (.iload_n 2, 1) := by decide +kernel
theorem dX6_would_8 : decode cX6_would 8 = .ok (.iconst 0, 1) := by decide +kernel
theorem dX6_would_9 : decode cX6_would 9 = .ok (.iconst 4, 1) := by decide +kernel
theorem dX6_would_10 : decode cX6_would 10 = .ok (.invokestatic 122, 3) := by decide +kernel
theorem dX6_would_13 : decode cX6_would 13 = .ok (.ifCond .ne 6, 3) := by decide +kernel
theorem dX6_would_16 : decode cX6_would 16 = .ok (.ldc 87, 2) := by decide +kernel
theorem dX6_would_18 : decode cX6_would 18 = .ok (.ireturn, 1) := by decide +kernel
theorem dX6_would_19 : decode cX6_would 19 = .ok (.aload_n 0, 1) := by decide +kernel
theorem dX6_would_20 : decode cX6_would 20 = .ok (.invokevirtual 33, 3) := by decide +kernel
theorem dX6_would_23 : decode cX6_would 23 = .ok (.iload_n 1, 1) := by decide +kernel
theorem dX6_would_24 : decode cX6_would 24 = .ok (.invokevirtual 74, 3) := by decide +kernel
theorem dX6_would_27 : decode cX6_would 27 = .ok (.istore_n 3, 1) := by decide +kernel
theorem dX6_would_28 : decode cX6_would 28 = .ok (.iload_n 3, 1) := by decide +kernel
theorem dX6_would_29 : decode cX6_would 29 = .ok (.ifCond .ge 6, 3) := by decide +kernel
theorem dX6_would_32 : decode cX6_would 32 = .ok (.ldc 155, 2) := by decide +kernel
theorem dX6_would_34 : decode cX6_would 34 = .ok (.ireturn, 1) := by decide +kernel
theorem dX6_would_35 : decode cX6_would 35 = .ok (.aload_n 0, 1) := by decide +kernel
theorem dX6_would_36 : decode cX6_would 36 = .ok (.getfield 12, 3) := by decide +kernel
theorem dX6_would_39 : decode cX6_would 39 = .ok (.aload_n 0, 1) := by decide +kernel
theorem dX6_would_40 : decode cX6_would 40 = .ok (.getfield 12, 3) := by decide +kernel
theorem dX6_would_43 : decode cX6_would 43 = .ok (.iload_n 1, 1) := by decide +kernel
theorem dX6_would_44 : decode cX6_would 44 = .ok (.invokevirtual 152, 3) := by decide +kernel
theorem dX6_would_47 : decode cX6_would 47 = .ok (.invokevirtual 156, 3) := by decide +kernel
theorem dX6_would_50 : decode cX6_would 50 = .ok (.istore 4, 2) := by decide +kernel
theorem dX6_would_52 : decode cX6_would 52 = .ok (.iload_n 2, 1) := by decide +kernel
theorem dX6_would_53 : decode cX6_would 53 = .ok (.tableswitch 75 0 3 #[31, 47, 63, 65], 31) := by decide +kernel
theorem dX6_would_84 : decode cX6_would 84 = .ok (.aload_n 0, 1) := by decide +kernel
theorem dX6_would_85 : decode cX6_would 85 = .ok (.getfield 16, 3) := by decide +kernel
theorem dX6_would_88 : decode cX6_would 88 = .ok (.getfield 159, 3) := by decide +kernel
theorem dX6_would_91 : decode cX6_would 91 = .ok (.aload_n 0, 1) := by decide +kernel
theorem dX6_would_92 : decode cX6_would 92 = .ok (.getfield 12, 3) := by decide +kernel
theorem dX6_would_95 : decode cX6_would 95 = .ok (.getfield 159, 3) := by decide +kernel
theorem dX6_would_98 : decode cX6_would 98 = .ok (.isub, 1) := by decide +kernel
theorem dX6_would_99 : decode cX6_would 99 = .ok (.ireturn, 1) := by decide +kernel
theorem dX6_would_100 : decode cX6_would 100 = .ok (.aload_n 0, 1) := by decide +kernel
theorem dX6_would_101 : decode cX6_would 101 = .ok (.getfield 16, 3) := by decide +kernel
theorem dX6_would_104 : decode cX6_would 104 = .ok (.getfield 162, 3) := by decide +kernel
theorem dX6_would_107 : decode cX6_would 107 = .ok (.aload_n 0, 1) := by decide +kernel
theorem dX6_would_108 : decode cX6_would 108 = .ok (.getfield 12, 3) := by decide +kernel
theorem dX6_would_111 : decode cX6_would 111 = .ok (.getfield 162, 3) := by decide +kernel
theorem dX6_would_114 : decode cX6_would 114 = .ok (.isub, 1) := by decide +kernel
theorem dX6_would_115 : decode cX6_would 115 = .ok (.ireturn, 1) := by decide +kernel
theorem dX6_would_116 : decode cX6_would 116 = .ok (.iload_n 3, 1) := by decide +kernel
theorem dX6_would_117 : decode cX6_would 117 = .ok (.ireturn, 1) := by decide +kernel
theorem dX6_would_118 : decode cX6_would 118 = .ok (.aload_n 0, 1) := by decide +kernel
theorem dX6_would_119 : decode cX6_would 119 = .ok (.getfield 12, 3) := by decide +kernel
theorem dX6_would_122 : decode cX6_would 122 = .ok (.iload 4, 2) := by decide +kernel
theorem dX6_would_124 : decode cX6_would 124 = .ok (.invokevirtual 165, 3) := by decide +kernel
theorem dX6_would_127 : decode cX6_would 127 = .ok (.ireturn, 1) := by decide +kernel
theorem dX6_would_128 : decode cX6_would 128 = .ok (.iload 4, 2) := by decide +kernel
theorem dX6_would_130 : decode cX6_would 130 = .ok (.ireturn, 1) := by decide +kernel
theorem dX6_wayTo_0 : decode cX6_wayTo 0 = .ok (.iload_n 1, 1) := by decide +kernel
theorem dX6_wayTo_1 : decode cX6_wayTo 1 = .ok (.iconst 0, 1) := by decide +kernel
theorem dX6_wayTo_2 : decode cX6_wayTo 2 = .ok (.bipush 7, 2) := by decide +kernel
theorem dX6_wayTo_4 : decode cX6_wayTo 4 = .ok (.invokestatic 122, 3) := by decide +kernel
theorem dX6_wayTo_7 : decode cX6_wayTo 7 = .ok (.ifCond .ne 6, 3) := by decide +kernel
theorem dX6_wayTo_10 : decode cX6_wayTo 10 = .ok (.ldc 87, 2) := by decide +kernel
theorem dX6_wayTo_12 : decode cX6_wayTo 12 = .ok (.ireturn, 1) := by decide +kernel
theorem dX6_wayTo_13 : decode cX6_wayTo 13 = .ok (.aload_n 0, 1) := by decide +kernel
theorem dX6_wayTo_14 : decode cX6_wayTo 14 = .ok (.invokevirtual 33, 3) := by decide +kernel
theorem dX6_wayTo_17 : decode cX6_wayTo 17 = .ok (.iload_n 1, 1) := by decide +kernel
theorem dX6_wayTo_18 : decode cX6_wayTo 18 = .ok (.invokevirtual 168, 3) := by decide +kernel
theorem dX6_wayTo_21 : decode cX6_wayTo 21 = .ok (.aload_n 0, 1) := by decide +kernel
theorem dX6_wayTo_22 : decode cX6_wayTo 22 = .ok (.getfield 16, 3) := by decide +kernel
theorem dX6_wayTo_25 : decode cX6_wayTo 25 = .ok (.getfield 159, 3) := by decide +kernel
theorem dX6_wayTo_28 : decode cX6_wayTo 28 = .ok (.aload_n 0, 1) := by decide +kernel
theorem dX6_wayTo_29 : decode cX6_wayTo 29 = .ok (.getfield 12, 3) := by decide +kernel
theorem dX6_wayTo_32 : decode cX6_wayTo 32 = .ok (.getfield 159, 3) := by decide +kernel
theorem dX6_wayTo_35 : decode cX6_wayTo 35 = .ok (.isub, 1) := by decide +kernel
theorem dX6_wayTo_36 : decode cX6_wayTo 36 = .ok (.ireturn, 1) := by decide +kernel
theorem dX6_wholeBatch_0 : decode cX6_wholeBatch 0 = .ok (.iload_n 1, 1) := by decide +kernel
theorem dX6_wholeBatch_1 : decode cX6_wholeBatch 1 = .ok (.invokestatic 149, 3) := by decide +kernel
theorem dX6_wholeBatch_4 : decode cX6_wholeBatch 4 = .ok (.ifCond .eq 12, 3) := by decide +kernel
theorem dX6_wholeBatch_7 : decode cX6_wholeBatch 7 = .ok (.iload_n 2, 1) := by decide +kernel
theorem dX6_wholeBatch_8 : decode cX6_wholeBatch 8 = .ok (.iconst 0, 1) := by decide +kernel
theorem dX6_wholeBatch_9 : decode cX6_wholeBatch 9 = .ok (.iconst 2, 1) := by decide +kernel
theorem dX6_wholeBatch_10 : decode cX6_wholeBatch 10 = .ok (.invokestatic 122, 3) := by decide +kernel
theorem dX6_wholeBatch_13 : decode cX6_wholeBatch 13 = .ok (.ifCond .ne 6, 3) := by decide +kernel
theorem dX6_wholeBatch_16 : decode cX6_wholeBatch 16 = .ok (.ldc 87, 2) := by decide +kernel
theorem dX6_wholeBatch_18 : decode cX6_wholeBatch 18 = .ok (.ireturn, 1) := by decide +kernel
theorem dX6_wholeBatch_19 : decode cX6_wholeBatch 19 = .ok (.aload_n 0, 1) := by decide +kernel
theorem dX6_wholeBatch_20 : decode cX6_wholeBatch 20 = .ok (.invokevirtual 33, 3) := by decide +kernel
theorem dX6_wholeBatch_23 : decode cX6_wholeBatch 23 = .ok (.iload_n 1, 1) := by decide +kernel
theorem dX6_wholeBatch_24 : decode cX6_wholeBatch 24 = .ok (.invokevirtual 172, 3) := by decide +kernel
theorem dX6_wholeBatch_27 : decode cX6_wholeBatch 27 = .ok (.istore_n 3, 1) := by decide +kernel
theorem dX6_wholeBatch_28 : decode cX6_wholeBatch 28 = .ok (.iload_n 2, 1) := by decide +kernel
theorem dX6_wholeBatch_29 : decode cX6_wholeBatch 29 = .ok (.lookupswitch 45 #[(0, 27), (1, 43)], 27) := by decide +kernel
theorem dX6_wholeBatch_56 : decode cX6_wholeBatch 56 = .ok (.aload_n 0, 1) := by decide +kernel
theorem dX6_wholeBatch_57 : decode cX6_wholeBatch 57 = .ok (.getfield 16, 3) := by decide +kernel
theorem dX6_wholeBatch_60 : decode cX6_wholeBatch 60 = .ok (.getfield 159, 3) := by decide +kernel
theorem dX6_wholeBatch_63 : decode cX6_wholeBatch 63 = .ok (.aload_n 0, 1) := by decide +kernel
theorem dX6_wholeBatch_64 : decode cX6_wholeBatch 64 = .ok (.getfield 12, 3) := by decide +kernel
theorem dX6_wholeBatch_67 : decode cX6_wholeBatch 67 = .ok (.getfield 159, 3) := by decide +kernel
theorem dX6_wholeBatch_70 : decode cX6_wholeBatch 70 = .ok (.isub, 1) := by decide +kernel
theorem dX6_wholeBatch_71 : decode cX6_wholeBatch 71 = .ok (.ireturn, 1) := by decide +kernel
theorem dX6_wholeBatch_72 : decode cX6_wholeBatch 72 = .ok (.iload_n 3, 1) := by decide +kernel
theorem dX6_wholeBatch_73 : decode cX6_wholeBatch 73 = .ok (.ireturn, 1) := by decide +kernel
theorem dX6_wholeBatch_74 : decode cX6_wholeBatch 74 = .ok (.aload_n 0, 1) := by decide +kernel
theorem dX6_wholeBatch_75 : decode cX6_wholeBatch 75 = .ok (.getfield 16, 3) := by decide +kernel
theorem dX6_wholeBatch_78 : decode cX6_wholeBatch 78 = .ok (.getfield 129, 3) := by decide +kernel
theorem dX6_wholeBatch_81 : decode cX6_wholeBatch 81 = .ok (.getfield 133, 3) := by decide +kernel
theorem dX6_wholeBatch_84 : decode cX6_wholeBatch 84 = .ok (.ireturn, 1) := by decide +kernel
theorem dX6_count_0 : decode cX6_count 0 = .ok (.iload_n 1, 1) := by decide +kernel
theorem dX6_count_1 : decode cX6_count 1 = .ok (.tableswitch 238 0 15 #[79, 87, 95, 103, 111, 127, 138, 149, 160, 171, 179, 187, 199, 211, 222, 230], 79) := by decide +kernel
theorem dX6_count_80 : decode cX6_count 80 = .ok (.aload_n 0, 1) := by decide +kernel
theorem dX6_count_81 : decode cX6_count 81 = .ok (.getfield 12, 3) := by decide +kernel
theorem dX6_count_84 : decode cX6_count 84 = .ok (.getfield 159, 3) := by decide +kernel
theorem dX6_count_87 : decode cX6_count 87 = .ok (.ireturn, 1) := by decide +kernel
theorem dX6_count_88 : decode cX6_count 88 = .ok (.aload_n 0, 1) := by decide +kernel
theorem dX6_count_89 : decode cX6_count 89 = .ok (.getfield 12, 3) := by decide +kernel
theorem dX6_count_92 : decode cX6_count 92 = .ok (.getfield 175, 3) := by decide +kernel
theorem dX6_count_95 : decode cX6_count 95 = .ok (.ireturn, 1) := by decide +kernel
theorem dX6_count_96 : decode cX6_count 96 = .ok (.aload_n 0, 1) := by decide +kernel
theorem dX6_count_97 : decode cX6_count 97 = .ok (.getfield 12, 3) := by decide +kernel
theorem dX6_count_100 : decode cX6_count 100 = .ok (.getfield 178, 3) := by decide +kernel
theorem dX6_count_103 : decode cX6_count 103 = .ok (.ireturn, 1) := by decide +kernel
theorem dX6_count_104 : decode cX6_count 104 = .ok (.aload_n 0, 1) := by decide +kernel
theorem dX6_count_105 : decode cX6_count 105 = .ok (.getfield 12, 3) := by decide +kernel
theorem dX6_count_108 : decode cX6_count 108 = .ok (.getfield 181, 3) := by decide +kernel
theorem dX6_count_111 : decode cX6_count 111 = .ok (.ireturn, 1) := by decide +kernel
theorem dX6_count_112 : decode cX6_count 112 = .ok (.aload_n 0, 1) := by decide +kernel
theorem dX6_count_113 : decode cX6_count 113 = .ok (.getfield 12, 3) := by decide +kernel
theorem dX6_count_116 : decode cX6_count 116 = .ok (.getfield 184, 3) := by decide +kernel
theorem dX6_count_119 : decode cX6_count 119 = .ok (.ifCond .eq 7, 3) := by decide +kernel
theorem dX6_count_122 : decode cX6_count 122 = .ok (.iconst 1, 1) := by decide +kernel
theorem dX6_count_123 : decode cX6_count 123 = .ok (.goto 4, 3) := by decide +kernel
theorem dX6_count_126 : decode cX6_count 126 = .ok (.iconst 0, 1) := by decide +kernel
theorem dX6_count_127 : decode cX6_count 127 = .ok (.ireturn, 1) := by decide +kernel
theorem dX6_count_128 : decode cX6_count 128 = .ok (.aload_n 0, 1) := by decide +kernel
theorem dX6_count_129 : decode cX6_count 129 = .ok (.getfield 12, 3) := by decide +kernel
theorem dX6_count_132 : decode cX6_count 132 = .ok (.getfield 77, 3) := by decide +kernel
theorem dX6_count_135 : decode cX6_count 135 = .ok (.getfield 188, 3) := by decide +kernel
theorem dX6_count_138 : decode cX6_count 138 = .ok (.ireturn, 1) := by decide +kernel
theorem dX6_count_139 : decode cX6_count 139 = .ok (.aload_n 0, 1) := by decide +kernel
theorem dX6_count_140 : decode cX6_count 140 = .ok (.getfield 12, 3) := by decide +kernel
theorem dX6_count_143 : decode cX6_count 143 = .ok (.getfield 77, 3) := by decide +kernel
theorem dX6_count_146 : decode cX6_count 146 = .ok (.invokevirtual 189, 3) := by decide +kernel
theorem dX6_count_149 : decode cX6_count 149 = .ok (.ireturn, 1) := by decide +kernel
theorem dX6_count_150 : decode cX6_count 150 = .ok (.aload_n 0, 1) := by decide +kernel
theorem dX6_count_151 : decode cX6_count 151 = .ok (.getfield 12, 3) := by decide +kernel
theorem dX6_count_154 : decode cX6_count 154 = .ok (.getfield 77, 3) := by decide +kernel
theorem dX6_count_157 : decode cX6_count 157 = .ok (.invokevirtual 192, 3) := by decide +kernel
theorem dX6_count_160 : decode cX6_count 160 = .ok (.ireturn, 1) := by decide +kernel
theorem dX6_count_161 : decode cX6_count 161 = .ok (.aload_n 0, 1) := by decide +kernel
theorem dX6_count_162 : decode cX6_count 162 = .ok (.getfield 12, 3) := by decide +kernel
theorem dX6_count_165 : decode cX6_count 165 = .ok (.getfield 129, 3) := by decide +kernel
theorem dX6_count_168 : decode cX6_count 168 = .ok (.getfield 133, 3) := by decide +kernel
theorem dX6_count_171 : decode cX6_count 171 = .ok (.ireturn, 1) := by decide +kernel
theorem dX6_count_172 : decode cX6_count 172 = .ok (.aload_n 0, 1) := by decide +kernel
theorem dX6_count_173 : decode cX6_count 173 = .ok (.getfield 12, 3) := by decide +kernel
theorem dX6_count_176 : decode cX6_count 176 = .ok (.getfield 195, 3) := by decide +kernel
theorem dX6_count_179 : decode cX6_count 179 = .ok (.ireturn, 1) := by decide +kernel
theorem dX6_count_180 : decode cX6_count 180 = .ok (.aload_n 0, 1) := by decide +kernel
theorem dX6_count_181 : decode cX6_count 181 = .ok (.getfield 12, 3) := by decide +kernel
theorem dX6_count_184 : decode cX6_count 184 = .ok (.getfield 162, 3) := by decide +kernel
theorem dX6_count_187 : decode cX6_count 187 = .ok (.ireturn, 1) := by decide +kernel
theorem dX6_count_188 : decode cX6_count 188 = .ok (.aload_n 0, 1) := by decide +kernel
theorem dX6_count_189 : decode cX6_count 189 = .ok (.getfield 12, 3) := by decide +kernel
theorem dX6_count_192 : decode cX6_count 192 = .ok (.iconst 0, 1) := by decide +kernel
theorem dX6_count_193 : decode cX6_count 193 = .ok (.invokevirtual 198, 3) := by decide +kernel
theorem dX6_count_196 : decode cX6_count 196 = .ok (.invokestatic 119, 3) := by decide +kernel
theorem dX6_count_199 : decode cX6_count 199 = .ok (.ireturn, 1) := by decide +kernel
theorem dX6_count_200 : decode cX6_count 200 = .ok (.aload_n 0, 1) := by decide +kernel
theorem dX6_count_201 : decode cX6_count 201 = .ok (.getfield 12, 3) := by decide +kernel
theorem dX6_count_204 : decode cX6_count 204 = .ok (.iconst 1, 1) := by decide +kernel
theorem dX6_count_205 : decode cX6_count 205 = .ok (.invokevirtual 198, 3) := by decide +kernel
theorem dX6_count_208 : decode cX6_count 208 = .ok (.invokestatic 119, 3) := by decide +kernel
theorem dX6_count_211 : decode cX6_count 211 = .ok (.ireturn, 1) := by decide +kernel
theorem dX6_count_212 : decode cX6_count 212 = .ok (.aload_n 0, 1) := by decide +kernel
theorem dX6_count_213 : decode cX6_count 213 = .ok (.getfield 12, 3) := by decide +kernel
theorem dX6_count_216 : decode cX6_count 216 = .ok (.getfield 77, 3) := by decide +kernel
theorem dX6_count_219 : decode cX6_count 219 = .ok (.invokevirtual 201, 3) := by decide +kernel
theorem dX6_count_222 : decode cX6_count 222 = .ok (.ireturn, 1) := by decide +kernel
theorem dX6_count_223 : decode cX6_count 223 = .ok (.aload_n 0, 1) := by decide +kernel
theorem dX6_count_224 : decode cX6_count 224 = .ok (.getfield 22, 3) := by decide +kernel
theorem dX6_count_227 : decode cX6_count 227 = .ok (.getfield 204, 3) := by decide +kernel
theorem dX6_count_230 : decode cX6_count 230 = .ok (.ireturn, 1) := by decide +kernel
theorem dX6_count_231 : decode cX6_count 231 = .ok (.aload_n 0, 1) := by decide +kernel
theorem dX6_count_232 : decode cX6_count 232 = .ok (.getfield 29, 3) := by decide +kernel
theorem dX6_count_235 : decode cX6_count 235 = .ok (.getfield 205, 3) := by decide +kernel
theorem dX6_count_238 : decode cX6_count 238 = .ok (.ireturn, 1) := by decide +kernel
theorem dX6_count_239 : decode cX6_count 239 = .ok (.ldc 87, 2) := by decide +kernel
theorem dX6_count_241 : decode cX6_count 241 = .ok (.ireturn, 1) := by decide +kernel
theorem dX6_undo_0 : decode cX6_undo 0 = .ok (.aload_n 0, 1) := by decide +kernel
theorem dX6_undo_1 : decode cX6_undo 1 = .ok (.getfield 22, 3) := by decide +kernel
theorem dX6_undo_4 : decode cX6_undo 4 = .ok (.aload_n 0, 1) := by decide +kernel
theorem dX6_undo_5 : decode cX6_undo 5 = .ok (.getfield 12, 3) := by decide +kernel
theorem dX6_undo_8 : decode cX6_undo 8 = .ok (.invokevirtual 208, 3) := by decide +kernel
theorem dX6_undo_11 : decode cX6_undo 11 = .ok (.ireturn, 1) := by decide +kernel
theorem dX6_type_0 : decode cX6_type 0 = .ok (.aload_n 0, 1) := by decide +kernel
theorem dX6_type_1 : decode cX6_type 1 = .ok (.getfield 29, 3) := by decide +kernel
theorem dX6_type_4 : decode cX6_type 4 = .ok (.iload_n 1, 1) := by decide +kernel
theorem dX6_type_5 : decode cX6_type 5 = .ok (.invokevirtual 212, 3) := by decide +kernel
theorem dX6_type_8 : decode cX6_type 8 = .ok (.ireturn, 1) := by decide +kernel
theorem dX6_clearText_0 : decode cX6_clearText 0 = .ok (.aload_n 0, 1) := by decide +kernel
theorem dX6_clearText_1 : decode cX6_clearText 1 = .ok (.getfield 29, 3) := by decide +kernel
theorem dX6_clearText_4 : decode cX6_clearText 4 = .ok (.invokevirtual 215, 3) := by decide +kernel
theorem dX6_clearText_7 : decode cX6_clearText 7 = .ok (.ireturn, 1) := by decide +kernel
theorem dX6_fault_0 : decode cX6_fault 0 = .ok (.iload_n 1, 1) := by decide +kernel
theorem dX6_fault_1 : decode cX6_fault 1 = .ok (.iconst 0, 1) := by decide +kernel
theorem dX6_fault_2 : decode cX6_fault 2 = .ok (.iconst 2, 1) := by decide +kernel
theorem dX6_fault_3 : decode cX6_fault 3 = .ok (.invokestatic 122, 3) := by decide +kernel
theorem dX6_fault_6 : decode cX6_fault 6 = .ok (.ifCond .ne 6, 3) := by decide +kernel
theorem dX6_fault_9 : decode cX6_fault 9 = .ok (.ldc 87, 2) := by decide +kernel
theorem dX6_fault_11 : decode cX6_fault 11 = .ok (.ireturn, 1) := by decide +kernel
theorem dX6_fault_12 : decode cX6_fault 12 = .ok (.aload_n 0, 1) := by decide +kernel
theorem dX6_fault_13 : decode cX6_fault 13 = .ok (.getfield 29, 3) := by decide +kernel
theorem dX6_fault_16 : decode cX6_fault 16 = .ok (.aload_n 0, 1) := by decide +kernel
theorem dX6_fault_17 : decode cX6_fault 17 = .ok (.invokevirtual 33, 3) := by decide +kernel
theorem dX6_fault_20 : decode cX6_fault 20 = .ok (.invokevirtual 218, 3) := by decide +kernel
theorem dX6_fault_23 : decode cX6_fault 23 = .ok (.pop, 1) := by decide +kernel
theorem dX6_fault_24 : decode cX6_fault 24 = .ok (.aload_n 0, 1) := by decide +kernel
theorem dX6_fault_25 : decode cX6_fault 25 = .ok (.getfield 29, 3) := by decide +kernel
theorem dX6_fault_28 : decode cX6_fault 28 = .ok (.iload_n 1, 1) := by decide +kernel
theorem dX6_fault_29 : decode cX6_fault 29 = .ok (.invokevirtual 221, 3) := by decide +kernel
theorem dX6_fault_32 : decode cX6_fault 32 = .ok (.ireturn, 1) := by decide +kernel
theorem dX6_play_0 : decode cX6_play 0 = .ok (.aload_n 0, 1) := by decide +kernel
theorem dX6_play_1 : decode cX6_play 1 = .ok (.aload_n 0, 1) := by decide +kernel
theorem dX6_play_2 : decode cX6_play 2 = .ok (.getfield 29, 3) := by decide +kernel
theorem dX6_play_5 : decode cX6_play 5 = .ok (.aload_n 0, 1) := by decide +kernel
theorem dX6_play_6 : decode cX6_play 6 = .ok (.invokevirtual 33, 3) := by decide +kernel
theorem dX6_play_9 : decode cX6_play 9 = .ok (.invokevirtual 218, 3) := by decide +kernel
theorem dX6_play_12 : decode cX6_play 12 = .ok (.invokevirtual 41, 3) := by decide +kernel
theorem dX6_play_15 : decode cX6_play 15 = .ok (.ireturn, 1) := by decide +kernel
theorem dX6_freshTrial_0 : decode cX6_freshTrial 0 = .ok (.aload_n 0, 1) := by decide +kernel
theorem dX6_freshTrial_1 : decode cX6_freshTrial 1 = .ok (.getfield 16, 3) := by decide +kernel
theorem dX6_freshTrial_4 : decode cX6_freshTrial 4 = .ok (.aload_n 0, 1) := by decide +kernel
theorem dX6_freshTrial_5 : decode cX6_freshTrial 5 = .ok (.getfield 12, 3) := by decide +kernel
theorem dX6_freshTrial_8 : decode cX6_freshTrial 8 = .ok (.invokevirtual 224, 3) := by decide +kernel
theorem dX6_freshTrial_11 : decode cX6_freshTrial 11 = .ok (.aload_n 0, 1) := by decide +kernel
theorem dX6_freshTrial_12 : decode cX6_freshTrial 12 = .ok (.getfield 16, 3) := by decide +kernel
theorem dX6_freshTrial_15 : decode cX6_freshTrial 15 = .ok (.areturn, 1) := by decide +kernel
theorem dX6_keep_0 : decode cX6_keep 0 = .ok (.iload_n 1, 1) := by decide +kernel
theorem dX6_keep_1 : decode cX6_keep 1 = .ok (.iconst (-1), 1) := by decide +kernel
theorem dX6_keep_2 : decode cX6_keep 2 = .ok (.if_icmp .lt 25, 3) := by decide +kernel
theorem dX6_keep_5 : decode cX6_keep 5 = .ok (.aload_n 0, 1) := by decide +kernel
theorem dX6_keep_6 : decode cX6_keep 6 = .ok (.getfield 22, 3) := by decide +kernel
theorem dX6_keep_9 : decode cX6_keep 9 = .ok (.aload_n 0, 1) := by decide +kernel
theorem dX6_keep_10 : decode cX6_keep 10 = .ok (.getfield 12, 3) := by decide +kernel
theorem dX6_keep_13 : decode cX6_keep 13 = .ok (.invokevirtual 228, 3) := by decide +kernel
theorem dX6_keep_16 : decode cX6_keep 16 = .ok (.aload_n 0, 1) := by decide +kernel
theorem dX6_keep_17 : decode cX6_keep 17 = .ok (.getfield 12, 3) := by decide +kernel
theorem dX6_keep_20 : decode cX6_keep 20 = .ok (.aload_n 0, 1) := by decide +kernel
theorem dX6_keep_21 : decode cX6_keep 21 = .ok (.getfield 16, 3) := by decide +kernel
theorem dX6_keep_24 : decode cX6_keep 24 = .ok (.invokevirtual 224, 3) := by decide +kernel
theorem dX6_keep_27 : decode cX6_keep 27 = .ok (.iload_n 1, 1) := by decide +kernel
theorem dX6_keep_28 : decode cX6_keep 28 = .ok (.ireturn, 1) := by decide +kernel
theorem dX6_found_0 : decode cX6_found 0 = .ok (.iload_n 0, 1) := by decide +kernel
theorem dX6_found_1 : decode cX6_found 1 = .ok (.iconst (-1), 1) := by decide +kernel
theorem dX6_found_2 : decode cX6_found 2 = .ok (.if_icmp .ne 8, 3) := by decide +kernel
theorem dX6_found_5 : decode cX6_found 5 = .ok (.ldc 139, 2) := by decide +kernel
theorem dX6_found_7 : decode cX6_found 7 = .ok (.goto 4, 3) := by decide +kernel
theorem dX6_found_10 : decode cX6_found 10 = .ok (.iload_n 0, 1) := by decide +kernel
theorem dX6_found_11 : decode cX6_found 11 = .ok (.ireturn, 1) := by decide +kernel
theorem dX6_isIn_0 : decode cX6_isIn 0 = .ok (.iload_n 0, 1) := by decide +kernel
theorem dX6_isIn_1 : decode cX6_isIn 1 = .ok (.iload_n 1, 1) := by decide +kernel
theorem dX6_isIn_2 : decode cX6_isIn 2 = .ok (.if_icmp .lt 12, 3) := by decide +kernel
theorem dX6_isIn_5 : decode cX6_isIn 5 = .ok (.iload_n 0, 1) := by decide +kernel
theorem dX6_isIn_6 : decode cX6_isIn 6 = .ok (.iload_n 2, 1) := by decide +kernel
theorem dX6_isIn_7 : decode cX6_isIn 7 = .ok (.if_icmp .gt 7, 3) := by decide +kernel
theorem dX6_isIn_10 : decode cX6_isIn 10 = .ok (.iconst 1, 1) := by decide +kernel
theorem dX6_isIn_11 : decode cX6_isIn 11 = .ok (.goto 4, 3) := by decide +kernel
theorem dX6_isIn_14 : decode cX6_isIn 14 = .ok (.iconst 0, 1) := by decide +kernel
theorem dX6_isIn_15 : decode cX6_isIn 15 = .ok (.ireturn, 1) := by decide +kernel
theorem dX6_isRule_0 : decode cX6_isRule 0 = .ok (.iload_n 0, 1) := by decide +kernel
theorem dX6_isRule_1 : decode cX6_isRule 1 = .ok (.iconst 0, 1) := by decide +kernel
theorem dX6_isRule_2 : decode cX6_isRule 2 = .ok (.iconst 3, 1) := by decide +kernel
theorem dX6_isRule_3 : decode cX6_isRule 3 = .ok (.invokestatic 122, 3) := by decide +kernel
theorem dX6_isRule_6 : decode cX6_isRule 6 = .ok (.ireturn, 1) := by decide +kernel
theorem dX6_isShelf_0 : decode cX6_isShelf 0 = .ok (.iload_n 0, 1) := by decide +kernel
theorem dX6_isShelf_1 : decode cX6_isShelf 1 = .ok (.iconst 0, 1) := by decide +kernel
theorem dX6_isShelf_2 : decode cX6_isShelf 2 = .ok (.bipush 7, 2) := by decide +kernel
theorem dX6_isShelf_4 : decode cX6_isShelf 4 = .ok (.invokestatic 122, 3) := by decide +kernel
theorem dX6_isShelf_7 : decode cX6_isShelf 7 = .ok (.ifCond .eq 16, 3) := by decide +kernel
theorem dX6_isShelf_10 : decode cX6_isShelf 10 = .ok (.iload_n 1, 1) := by decide +kernel
theorem dX6_isShelf_11 : decode cX6_isShelf 11 = .ok (.iconst 0, 1) := by decide +kernel
theorem dX6_isShelf_12 : decode cX6_isShelf 12 = .ok (.iconst 3, 1) := by decide +kernel
theorem dX6_isShelf_13 : decode cX6_isShelf 13 = .ok (.invokestatic 122, 3) := by decide +kernel
theorem dX6_isShelf_16 : decode cX6_isShelf 16 = .ok (.ifCond .eq 7, 3) := by decide +kernel
theorem dX6_isShelf_19 : decode cX6_isShelf 19 = .ok (.iconst 1, 1) := by decide +kernel
theorem dX6_isShelf_20 : decode cX6_isShelf 20 = .ok (.goto 4, 3) := by decide +kernel
theorem dX6_isShelf_23 : decode cX6_isShelf 23 = .ok (.iconst 0, 1) := by decide +kernel
theorem dX6_isShelf_24 : decode cX6_isShelf 24 = .ok (.ireturn, 1) := by decide +kernel
theorem dX6_shelfSlot_0 : decode cX6_shelfSlot 0 = .ok (.iconst 4, 1) := by decide +kernel
theorem dX6_shelfSlot_1 : decode cX6_shelfSlot 1 = .ok (.iload_n 0, 1) := by decide +kernel
theorem dX6_shelfSlot_2 : decode cX6_shelfSlot 2 = .ok (.imul, 1) := by decide +kernel
theorem dX6_shelfSlot_3 : decode cX6_shelfSlot 3 = .ok (.iload_n 1, 1) := by decide +kernel
theorem dX6_shelfSlot_4 : decode cX6_shelfSlot 4 = .ok (.iadd, 1) := by decide +kernel
theorem dX6_shelfSlot_5 : decode cX6_shelfSlot 5 = .ok (.ireturn, 1) := by decide +kernel
theorem dX6_wallOfDrive_0 : decode cX6_wallOfDrive 0 = .ok (.iload_n 0, 1) := by decide +kernel
theorem dX6_wallOfDrive_1 : decode cX6_wallOfDrive 1 = .ok (.ifCond .ne 7, 3) := by decide +kernel
theorem dX6_wallOfDrive_4 : decode cX6_wallOfDrive 4 = .ok (.iconst 2, 1) := by decide +kernel
theorem dX6_wallOfDrive_5 : decode cX6_wallOfDrive 5 = .ok (.goto 5, 3) := by decide +kernel
theorem dX6_wallOfDrive_8 : decode cX6_wallOfDrive 8 = .ok (.bipush 6, 2) := by decide +kernel
theorem dX6_wallOfDrive_10 : decode cX6_wallOfDrive 10 = .ok (.ireturn, 1) := by decide +kernel
theorem dX6_wallsToTheRight_0 : decode cX6_wallsToTheRight 0 = .ok (.iload_n 1, 1) := by decide +kernel
theorem dX6_wallsToTheRight_1 : decode cX6_wallsToTheRight 1 = .ok (.iload_n 0, 1) := by decide +kernel
theorem dX6_wallsToTheRight_2 : decode cX6_wallsToTheRight 2 = .ok (.isub, 1) := by decide +kernel
theorem dX6_wallsToTheRight_3 : decode cX6_wallsToTheRight 3 = .ok (.bipush 8, 2) := by decide +kernel
theorem dX6_wallsToTheRight_5 : decode cX6_wallsToTheRight 5 = .ok (.iadd, 1) := by decide +kernel
theorem dX6_wallsToTheRight_6 : decode cX6_wallsToTheRight 6 = .ok (.bipush 8, 2) := by decide +kernel
theorem dX6_wallsToTheRight_8 : decode cX6_wallsToTheRight 8 = .ok (.irem, 1) := by decide +kernel
theorem dX6_wallsToTheRight_9 : decode cX6_wallsToTheRight 9 = .ok (.ireturn, 1) := by decide +kernel
theorem dX6_distance_0 : decode cX6_distance 0 = .ok (.iload_n 0, 1) := by decide +kernel
theorem dX6_distance_1 : decode cX6_distance 1 = .ok (.iload_n 1, 1) := by decide +kernel
theorem dX6_distance_2 : decode cX6_distance 2 = .ok (.invokestatic 231, 3) := by decide +kernel
theorem dX6_distance_5 : decode cX6_distance 5 = .ok (.istore_n 2, 1) := by decide +kernel
theorem dX6_distance_6 : decode cX6_distance 6 = .ok (.iload_n 2, 1) := by decide +kernel
theorem dX6_distance_7 : decode cX6_distance 7 = .ok (.iconst 4, 1) := by decide +kernel
theorem dX6_distance_8 : decode cX6_distance 8 = .ok (.if_icmp .gt 7, 3) := by decide +kernel
theorem dX6_distance_11 : decode cX6_distance 11 = .ok (.iload_n 2, 1) := by decide +kernel
theorem dX6_distance_12 : decode cX6_distance 12 = .ok (.goto 7, 3) := by decide +kernel
theorem dX6_distance_15 : decode cX6_distance 15 = .ok (.bipush 8, 2) := by decide +kernel
theorem dX6_distance_17 : decode cX6_distance 17 = .ok (.iload_n 2, 1) := by decide +kernel
theorem dX6_distance_18 : decode cX6_distance 18 = .ok (.isub, 1) := by decide +kernel
theorem dX6_distance_19 : decode cX6_distance 19 = .ok (.ireturn, 1) := by decide +kernel
theorem dX6_mostWallsWith_0 : decode cX6_mostWallsWith 0 = .ok (.iload_n 0, 1) := by decide +kernel
theorem dX6_mostWallsWith_1 : decode cX6_mostWallsWith 1 = .ok (.bipush 10, 2) := by decide +kernel
theorem dX6_mostWallsWith_3 : decode cX6_mostWallsWith 3 = .ok (.if_icmp .gt 5, 3) := by decide +kernel
theorem dX6_mostWallsWith_6 : decode cX6_mostWallsWith 6 = .ok (.iconst 4, 1) := by decide +kernel
theorem dX6_mostWallsWith_7 : decode cX6_mostWallsWith 7 = .ok (.ireturn, 1) := by decide +kernel
theorem dX6_mostWallsWith_8 : decode cX6_mostWallsWith 8 = .ok (.iload_n 0, 1) := by decide +kernel
theorem dX6_mostWallsWith_9 : decode cX6_mostWallsWith 9 = .ok (.bipush 20, 2) := by decide +kernel
theorem dX6_mostWallsWith_11 : decode cX6_mostWallsWith 11 = .ok (.if_icmp .gt 7, 3) := by decide +kernel
theorem dX6_mostWallsWith_14 : decode cX6_mostWallsWith 14 = .ok (.iconst 2, 1) := by decide +kernel
theorem dX6_mostWallsWith_15 : decode cX6_mostWallsWith 15 = .ok (.goto 4, 3) := by decide +kernel
theorem dX6_mostWallsWith_18 : decode cX6_mostWallsWith 18 = .ok (.iconst 1, 1) := by decide +kernel
theorem dX6_mostWallsWith_19 : decode cX6_mostWallsWith 19 = .ok (.ireturn, 1) := by decide +kernel
theorem dX7_init_0 : decode cX7_init 0 = .ok (.aload_n 0, 1) := by decide +kernel
theorem dX7_init_1 : decode cX7_init 1 = .ok (.invokespecial 1, 3) := by decide +kernel
theorem dX7_init_4 : decode cX7_init 4 = .ok (.aload_n 0, 1) := by decide +kernel
theorem dX7_init_5 : decode cX7_init 5 = .ok (.sipush 264, 3) := by decide +kernel
theorem dX7_init_8 : decode cX7_init 8 = .ok (.newarray .int, 2) := by decide +kernel
theorem dX7_init_10 : decode cX7_init 10 = .ok (.putfield 7, 3) := by decide +kernel
theorem dX7_init_13 : decode cX7_init 13 = .ok (.aload_n 0, 1) := by decide +kernel
theorem dX7_init_14 : decode cX7_init 14 = .ok (.sipush 1056, 3) := by decide +kernel
theorem dX7_init_17 : decode cX7_init 17 = .ok (.newarray .int, 2) := by decide +kernel
theorem dX7_init_19 : decode cX7_init 19 = .ok (.putfield 13, 3) := by decide +kernel
theorem dX7_init_22 : decode cX7_init 22 = .ok (.aload_n 0, 1) := by decide +kernel
theorem dX7_init_23 : decode cX7_init 23 = .ok (.sipush 264, 3) := by decide +kernel
theorem dX7_init_26 : decode cX7_init 26 = .ok (.newarray .int, 2) := by decide +kernel
theorem dX7_init_28 : decode cX7_init 28 = .ok (.putfield 16, 3) := by decide +kernel
theorem dX7_init_31 : decode cX7_init 31 = .ok (.aload_n 0, 1) := by decide +kernel
theorem dX7_init_32 : decode cX7_init 32 = .ok (.sipush 264, 3) := by decide +kernel
theorem dX7_init_35 : decode cX7_init 35 = .ok (.newarray .int, 2) := by decide +kernel
theorem dX7_init_37 : decode cX7_init 37 = .ok (.putfield 19, 3) := by decide +kernel
theorem dX7_init_40 : decode cX7_init 40 = .ok (.aload_n 0, 1) := by decide +kernel
theorem dX7_init_41 : decode cX7_init 41 = .ok (.bipush 60, 2) := by decide +kernel
theorem dX7_init_43 : decode cX7_init 43 = .ok (.newarray .char, 2) := by decide +kernel
theorem dX7_init_45 : decode cX7_init 45 = .ok (.putfield 22, 3) := by decide +kernel
theorem dX7_init_48 : decode cX7_init 48 = .ok (.aload_n 0, 1) := by decide +kernel
theorem dX7_init_49 : decode cX7_init 49 = .ok (.getfield 7, 3) := by decide +kernel
theorem dX7_init_52 : decode cX7_init 52 = .ok (.bipush 11, 2) := by decide +kernel
theorem dX7_init_54 : decode cX7_init 54 = .ok (.iconst (-1), 1) := by decide +kernel
theorem dX7_init_55 : decode cX7_init 55 = .ok (.iastore, 1) := by decide +kernel
theorem dX7_init_56 : decode cX7_init 56 = .ok (.aload_n 0, 1) := by decide +kernel
theorem dX7_init_57 : decode cX7_init 57 = .ok (.getfield 7, 3) := by decide +kernel
theorem dX7_init_60 : decode cX7_init 60 = .ok (.bipush 12, 2) := by decide +kernel
theorem dX7_init_62 : decode cX7_init 62 = .ok (.iconst (-1), 1) := by decide +kernel
theorem dX7_init_63 : decode cX7_init 63 = .ok (.iastore, 1) := by decide +kernel
theorem dX7_init_64 : decode cX7_init 64 = .ok (.iconst 0, 1) := by decide +kernel
theorem dX7_init_65 : decode cX7_init 65 = .ok (.istore_n 1, 1) := by decide +kernel
theorem dX7_init_66 : decode cX7_init 66 = .ok (.iload_n 1, 1) := by decide +kernel
theorem dX7_init_67 : decode cX7_init 67 = .ok (.bipush 32, 2) := by decide +kernel
theorem dX7_init_69 : decode cX7_init 69 = .ok (.if_icmp .ge 19, 3) := by decide +kernel
theorem dX7_init_72 : decode cX7_init 72 = .ok (.aload_n 0, 1) := by decide +kernel
theorem dX7_init_73 : decode cX7_init 73 = .ok (.getfield 7, 3) := by decide +kernel
theorem dX7_init_76 : decode cX7_init 76 = .ok (.bipush 16, 2) := by decide +kernel
theorem dX7_init_78 : decode cX7_init 78 = .ok (.iload_n 1, 1) := by decide +kernel
theorem dX7_init_79 : decode cX7_init 79 = .ok (.iadd, 1) := by decide +kernel
theorem dX7_init_80 : decode cX7_init 80 = .ok (.iconst (-1), 1) := by decide +kernel
theorem dX7_init_81 : decode cX7_init 81 = .ok (.iastore, 1) := by decide +kernel
theorem dX7_init_82 : decode cX7_init 82 = .ok (.iinc 1 1, 3) := by decide +kernel
theorem dX7_init_85 : decode cX7_init 85 = .ok (.goto (-19), 3) := by decide +kernel
theorem dX7_init_88 : decode cX7_init 88 = .ok (.iconst 0, 1) := by decide +kernel
theorem dX7_init_89 : decode cX7_init 89 = .ok (.istore_n 1, 1) := by decide +kernel
theorem dX7_init_90 : decode cX7_init 90 = .ok (.iload_n 1, 1) := by decide +kernel
theorem dX7_init_91 : decode cX7_init 91 = .ok (.bipush 60, 2) := by decide +kernel
theorem dX7_init_93 : decode cX7_init 93 = .ok (.if_icmp .ge 20, 3) := by decide +kernel
theorem dX7_init_96 : decode cX7_init 96 = .ok (.aload_n 0, 1) := by decide +kernel
theorem dX7_init_97 : decode cX7_init 97 = .ok (.getfield 7, 3) := by decide +kernel
theorem dX7_init_100 : decode cX7_init 100 = .ok (.sipush 168, 3) := by decide +kernel
theorem dX7_init_103 : decode cX7_init 103 = .ok (.iload_n 1, 1) := by decide +kernel
theorem dX7_init_104 : decode cX7_init 104 = .ok (.iadd, 1) := by decide +kernel
theorem dX7_init_105 : decode cX7_init 105 = .ok (.iconst (-1), 1) := by decide +kernel
theorem dX7_init_106 : decode cX7_init 106 = .ok (.iastore, 1) := by decide +kernel
theorem dX7_init_107 : decode cX7_init 107 = .ok (.iinc 1 1, 3) := by decide +kernel
theorem dX7_init_110 : decode cX7_init 110 = .ok (.goto (-20), 3) := by decide +kernel
theorem dX7_init_113 : decode cX7_init 113 = .ok (.return_, 1) := by decide +kernel
theorem dX7_in_0 : decode cX7_in 0 = .ok (.iload_n 0, 1) := by decide +kernel
theorem dX7_in_1 : decode cX7_in 1 = .ok (.iload_n 1, 1) := by decide +kernel
theorem dX7_in_2 : decode cX7_in 2 = .ok (.if_icmp .lt 12, 3) := by decide +kernel
theorem dX7_in_5 : decode cX7_in 5 = .ok (.iload_n 0, 1) := by decide +kernel
theorem dX7_in_6 : decode cX7_in 6 = .ok (.iload_n 2, 1) := by decide +kernel
theorem dX7_in_7 : decode cX7_in 7 = .ok (.if_icmp .gt 7, 3) := by decide +kernel
theorem dX7_in_10 : decode cX7_in 10 = .ok (.iconst 1, 1) := by decide +kernel
theorem dX7_in_11 : decode cX7_in 11 = .ok (.goto 4, 3) := by decide +kernel
theorem dX7_in_14 : decode cX7_in 14 = .ok (.iconst 0, 1) := by decide +kernel
theorem dX7_in_15 : decode cX7_in 15 = .ok (.ireturn, 1) := by decide +kernel
theorem dX7_ca_0 : decode cX7_ca 0 = .ok (.aload_n 0, 1) := by decide +kernel
theorem dX7_ca_1 : decode cX7_ca 1 = .ok (.getfield 7, 3) := by decide +kernel
theorem dX7_ca_4 : decode cX7_ca 4 = .ok (.bipush 48, 2) := by decide +kernel
theorem dX7_ca_6 : decode cX7_ca 6 = .ok (.iconst 4, 1) := by decide +kernel
theorem dX7_ca_7 : decode cX7_ca 7 = .ok (.iload_n 1, 1) := by decide +kernel
theorem dX7_ca_8 : decode cX7_ca 8 = .ok (.imul, 1) := by decide +kernel
theorem dX7_ca_9 : decode cX7_ca 9 = .ok (.iadd, 1) := by decide +kernel
theorem dX7_ca_10 : decode cX7_ca 10 = .ok (.iload_n 2, 1) := by decide +kernel
theorem dX7_ca_11 : decode cX7_ca 11 = .ok (.iadd, 1) := by decide +kernel
theorem dX7_ca_12 : decode cX7_ca 12 = .ok (.iaload, 1) := by decide +kernel
theorem dX7_ca_13 : decode cX7_ca 13 = .ok (.ireturn, 1) := by decide +kernel
theorem dX7_isCartridge_0 : decode cX7_isCartridge 0 = .ok (.iload_n 1, 1) := by decide +kernel
theorem dX7_isCartridge_1 : decode cX7_isCartridge 1 = .ok (.iconst 0, 1) := by decide +kernel
theorem dX7_isCartridge_2 : decode cX7_isCartridge 2 = .ok (.aload_n 0, 1) := by decide +kernel
theorem dX7_isCartridge_3 : decode cX7_isCartridge 3 = .ok (.getfield 7, 3) := by decide +kernel
theorem dX7_isCartridge_6 : decode cX7_isCartridge 6 = .ok (.bipush 7, 2) := by decide +kernel
theorem dX7_isCartridge_8 : decode cX7_isCartridge 8 = .ok (.iaload, 1) := by decide +kernel
theorem dX7_isCartridge_9 : decode cX7_isCartridge 9 = .ok (.iconst 1, 1) := by decide +kernel
theorem dX7_isCartridge_10 : decode cX7_isCartridge 10 = .ok (.isub, 1) := by decide +kernel
theorem dX7_isCartridge_11 : decode cX7_isCartridge 11 = .ok (.invokestatic 26, 3) := by decide +kernel
theorem dX7_isCartridge_14 : decode cX7_isCartridge 14 = .ok (.ireturn, 1) := by decide +kernel
theorem dX7_isAt_0 : decode cX7_isAt 0 = .ok (.aload_n 0, 1) := by decide +kernel
theorem dX7_isAt_1 : decode cX7_isAt 1 = .ok (.getfield 7, 3) := by decide +kernel
theorem dX7_isAt_4 : decode cX7_isAt 4 = .ok (.bipush 48, 2) := by decide +kernel
theorem dX7_isAt_6 : decode cX7_isAt 6 = .ok (.iconst 4, 1) := by decide +kernel
theorem dX7_isAt_7 : decode cX7_isAt 7 = .ok (.iload_n 1, 1) := by decide +kernel
theorem dX7_isAt_8 : decode cX7_isAt 8 = .ok (.imul, 1) := by decide +kernel
theorem dX7_isAt_9 : decode cX7_isAt 9 = .ok (.iadd, 1) := by decide +kernel
theorem dX7_isAt_10 : decode cX7_isAt 10 = .ok (.iconst 2, 1) := by decide +kernel
theorem dX7_isAt_11 : decode cX7_isAt 11 = .ok (.iadd, 1) := by decide +kernel
theorem dX7_isAt_12 : decode cX7_isAt 12 = .ok (.iload_n 2, 1) := by decide +kernel
theorem dX7_isAt_13 : decode cX7_isAt 13 = .ok (.iastore, 1) := by decide +kernel
theorem dX7_isAt_14 : decode cX7_isAt 14 = .ok (.return_, 1) := by decide +kernel
theorem dX7_keeps_0 : decode cX7_keeps 0 = .ok (.iconst 0, 1) := by decide +kernel
theorem dX7_keeps_1 : decode cX7_keeps 1 = .ok (.istore_n 1, 1) := by decide +kernel
theorem dX7_keeps_2 : decode cX7_keeps 2 = .ok (.iload_n 1, 1) := by decide +kernel
theorem dX7_keeps_3 : decode cX7_keeps 3 = .ok (.sipush 264, 3) := by decide +kernel
theorem dX7_keeps_6 : decode cX7_keeps 6 = .ok (.if_icmp .ge 21, 3) := by decide +kernel
theorem dX7_keeps_9 : decode cX7_keeps 9 = .ok (.aload_n 0, 1) := by decide +kernel
theorem dX7_keeps_10 : decode cX7_keeps 10 = .ok (.getfield 16, 3) := by decide +kernel
theorem dX7_keeps_13 : decode cX7_keeps 13 = .ok (.iload_n 1, 1) := by decide +kernel
theorem dX7_keeps_14 : decode cX7_keeps 14 = .ok (.aload_n 0, 1) := by decide +kernel
theorem dX7_keeps_15 : decode cX7_keeps 15 = .ok (.getfield 7, 3) := by decide +kernel
theorem dX7_keeps_18 : decode cX7_keeps 18 = .ok (.iload_n 1, 1) := by decide +kernel
theorem dX7_keeps_19 : decode cX7_keeps 19 = .ok (.iaload, 1) := by decide +kernel
theorem dX7_keeps_20 : decode cX7_keeps 20 = .ok (.iastore, 1) := by decide +kernel
theorem dX7_keeps_21 : decode cX7_keeps 21 = .ok (.iinc 1 1, 3) := by decide +kernel
theorem dX7_keeps_24 : decode cX7_keeps 24 = .ok (.goto (-22), 3) := by decide +kernel
theorem dX7_keeps_27 : decode cX7_keeps 27 = .ok (.return_, 1) := by decide +kernel
theorem dX7_acted_0 : decode cX7_acted 0 = .ok (.iload_n 1, 1) := by decide +kernel
theorem dX7_acted_1 : decode cX7_acted 1 = .ok (.ldc 30, 2) := by decide +kernel
theorem dX7_acted_3 : decode cX7_acted 3 = .ok (.if_icmp .le 98, 3) := by decide +kernel
theorem dX7_acted_6 : decode cX7_acted 6 = .ok (.aload_n 0, 1) := by decide +kernel
theorem dX7_acted_7 : decode cX7_acted 7 = .ok (.getfield 31, 3) := by decide +kernel
theorem dX7_acted_10 : decode cX7_acted 10 = .ok (.iconst 4, 1) := by decide +kernel
theorem dX7_acted_11 : decode cX7_acted 11 = .ok (.if_icmp .ne 44, 3) := by decide +kernel
theorem dX7_acted_14 : decode cX7_acted 14 = .ok (.iconst 0, 1) := by decide +kernel
theorem dX7_acted_15 : decode cX7_acted 15 = .ok (.istore_n 2, 1) := by decide +kernel
theorem dX7_acted_16 : decode cX7_acted 16 = .ok (.iload_n 2, 1) := by decide +kernel
theorem dX7_acted_17 : decode cX7_acted 17 = .ok (.sipush 792, 3) := by decide +kernel
theorem dX7_acted_20 : decode cX7_acted 20 = .ok (.if_icmp .ge 25, 3) := by decide +kernel
theorem dX7_acted_23 : decode cX7_acted 23 = .ok (.aload_n 0, 1) := by decide +kernel
theorem dX7_acted_24 : decode cX7_acted 24 = .ok (.getfield 13, 3) := by decide +kernel
theorem dX7_acted_27 : decode cX7_acted 27 = .ok (.iload_n 2, 1) := by decide +kernel
theorem dX7_acted_28 : decode cX7_acted 28 = .ok (.aload_n 0, 1) := by decide +kernel
theorem dX7_acted_29 : decode cX7_acted 29 = .ok (.getfield 13, 3) := by decide +kernel
theorem dX7_acted_32 : decode cX7_acted 32 = .ok (.iload_n 2, 1) := by decide +kernel
theorem dX7_acted_33 : decode cX7_acted 33 = .ok (.sipush 264, 3) := by decide +kernel
theorem dX7_acted_36 : decode cX7_acted 36 = .ok (.iadd, 1) := by decide +kernel
theorem dX7_acted_37 : decode cX7_acted 37 = .ok (.iaload, 1) := by decide +kernel
theorem dX7_acted_38 : decode cX7_acted 38 = .ok (.iastore, 1) := by decide +kernel
theorem dX7_acted_39 : decode cX7_acted 39 = .ok (.iinc 2 1, 3) := by decide +kernel
theorem dX7_acted_42 : decode cX7_acted 42 = .ok (.goto (-26), 3) := by decide +kernel
theorem dX7_acted_45 : decode cX7_acted 45 = .ok (.aload_n 0, 1) := by decide +kernel
theorem dX7_acted_46 : decode cX7_acted 46 = .ok (.dup, 1) := by decide +kernel
theorem dX7_acted_47 : decode cX7_acted 47 = .ok (.getfield 31, 3) := by decide +kernel
theorem dX7_acted_50 : decode cX7_acted 50 = .ok (.iconst 1, 1) := by decide +kernel
theorem dX7_acted_51 : decode cX7_acted 51 = .ok (.isub, 1) := by decide +kernel
theorem dX7_acted_52 : decode cX7_acted 52 = .ok (.putfield 31, 3) := by decide +kernel
theorem dX7_acted_55 : decode cX7_acted 55 = .ok (.iconst 0, 1) := by decide +kernel
theorem dX7_acted_56 : decode cX7_acted 56 = .ok (.istore_n 2, 1) := by decide +kernel
theorem dX7_acted_57 : decode cX7_acted 57 = .ok (.iload_n 2, 1) := by decide +kernel
theorem dX7_acted_58 : decode cX7_acted 58 = .ok (.sipush 264, 3) := by decide +kernel
theorem dX7_acted_61 : decode cX7_acted 61 = .ok (.if_icmp .ge 30, 3) := by decide +kernel
theorem dX7_acted_64 : decode cX7_acted 64 = .ok (.aload_n 0, 1) := by decide +kernel
theorem dX7_acted_65 : decode cX7_acted 65 = .ok (.getfield 13, 3) := by decide +kernel
theorem dX7_acted_68 : decode cX7_acted 68 = .ok (.sipush 264, 3) := by decide +kernel
theorem dX7_acted_71 : decode cX7_acted 71 = .ok (.aload_n 0, 1) := by decide +kernel
theorem dX7_acted_72 : decode cX7_acted 72 = .ok (.getfield 31, 3) := by decide +kernel
theorem dX7_acted_75 : decode cX7_acted 75 = .ok (.imul, 1) := by decide +kernel
theorem dX7_acted_76 : decode cX7_acted 76 = .ok (.iload_n 2, 1) := by decide +kernel
theorem dX7_acted_77 : decode cX7_acted 77 = .ok (.iadd, 1) := by decide +kernel
theorem dX7_acted_78 : decode cX7_acted 78 = .ok (.aload_n 0, 1) := by decide +kernel
theorem dX7_acted_79 : decode cX7_acted 79 = .ok (.getfield 16, 3) := by decide +kernel
theorem dX7_acted_82 : decode cX7_acted 82 = .ok (.iload_n 2, 1) := by decide +kernel
theorem dX7_acted_83 : decode cX7_acted 83 = .ok (.iaload, 1) := by decide +kernel
theorem dX7_acted_84 : decode cX7_acted 84 = .ok (.iastore, 1) := by decide +kernel
theorem dX7_acted_85 : decode cX7_acted 85 = .ok (.iinc 2 1, 3) := by decide +kernel
theorem dX7_acted_88 : decode cX7_acted 88 = .ok (.goto (-31), 3) := by decide +kernel
theorem dX7_acted_91 : decode cX7_acted 91 = .ok (.aload_n 0, 1) := by decide +kernel
theorem dX7_acted_92 : decode cX7_acted 92 = .ok (.dup, 1) := by decide +kernel
theorem dX7_acted_93 : decode cX7_acted 93 = .ok (.getfield 31, 3) := by decide +kernel
theorem dX7_acted_96 : decode cX7_acted 96 = .ok (.iconst 1, 1) := by decide +kernel
theorem dX7_acted_97 : decode cX7_acted 97 = .ok (.iadd, 1) := by decide +kernel
theorem dX7_acted_98 : decode cX7_acted 98 = .ok (.putfield 31, 3) := by decide +kernel
theorem dX7_acted_101 : decode cX7_acted 101 = .ok (.iload_n 1, 1) := by decide +kernel
theorem dX7_acted_102 : decode cX7_acted 102 = .ok (.ireturn, 1) := by decide +kernel
theorem dX7_puts_0 : decode cX7_puts 0 = .ok (.iconst 0, 1) := by decide +kernel
theorem dX7_puts_1 : decode cX7_puts 1 = .ok (.istore_n 1, 1) := by decide +kernel
theorem dX7_puts_2 : decode cX7_puts 2 = .ok (.iload_n 1, 1) := by decide +kernel
theorem dX7_puts_3 : decode cX7_puts 3 = .ok (.sipush 264, 3) := by decide +kernel
theorem dX7_puts_6 : decode cX7_puts 6 = .ok (.if_icmp .ge 21, 3) := by decide +kernel
theorem dX7_puts_9 : decode cX7_puts 9 = .ok (.aload_n 0, 1) := by decide +kernel
theorem dX7_puts_10 : decode cX7_puts 10 = .ok (.getfield 19, 3) := by decide +kernel
theorem dX7_puts_13 : decode cX7_puts 13 = .ok (.iload_n 1, 1) := by decide +kernel
theorem dX7_puts_14 : decode cX7_puts 14 = .ok (.aload_n 0, 1) := by decide +kernel
theorem dX7_puts_15 : decode cX7_puts 15 = .ok (.getfield 7, 3) := by decide +kernel
theorem dX7_puts_18 : decode cX7_puts 18 = .ok (.iload_n 1, 1) := by decide +kernel
theorem dX7_puts_19 : decode cX7_puts 19 = .ok (.iaload, 1) := by decide +kernel
theorem dX7_puts_20 : decode cX7_puts 20 = .ok (.iastore, 1) := by decide +kernel
theorem dX7_puts_21 : decode cX7_puts 21 = .ok (.iinc 1 1, 3) := by decide +kernel
theorem dX7_puts_24 : decode cX7_puts 24 = .ok (.goto (-22), 3) := by decide +kernel
theorem dX7_puts_27 : decode cX7_puts 27 = .ok (.return_, 1) := by decide +kernel
theorem dX7_restores_0 : decode cX7_restores 0 = .ok (.iconst 0, 1) := by decide +kernel
theorem dX7_restores_1 : decode cX7_restores 1 = .ok (.istore_n 1, 1) := by decide +kernel
theorem dX7_restores_2 : decode cX7_restores 2 = .ok (.iload_n 1, 1) := by decide +kernel
theorem dX7_restores_3 : decode cX7_restores 3 = .ok (.sipush 264, 3) := by decide +kernel
theorem dX7_restores_6 : decode cX7_restores 6 = .ok (.if_icmp .ge 21, 3) := by decide +kernel
theorem dX7_restores_9 : decode cX7_restores 9 = .ok (.aload_n 0, 1) := by decide +kernel
theorem dX7_restores_10 : decode cX7_restores 10 = .ok (.getfield 7, 3) := by decide +kernel
theorem dX7_restores_13 : decode cX7_restores 13 = .ok (.iload_n 1, 1) := by decide +kernel
theorem dX7_restores_14 : decode cX7_restores 14 = .ok (.aload_n 0, 1) := by decide +kernel
theorem dX7_restores_15 : decode cX7_restores 15 = .ok (.getfield 19, 3) := by decide +kernel
theorem dX7_restores_18 : decode cX7_restores 18 = .ok (.iload_n 1, 1) := by decide +kernel
theorem dX7_restores_19 : decode cX7_restores 19 = .ok (.iaload, 1) := by decide +kernel
theorem dX7_restores_20 : decode cX7_restores 20 = .ok (.iastore, 1) := by decide +kernel
theorem dX7_restores_21 : decode cX7_restores 21 = .ok (.iinc 1 1, 3) := by decide +kernel
theorem dX7_restores_24 : decode cX7_restores 24 = .ok (.goto (-22), 3) := by decide +kernel
theorem dX7_restores_27 : decode cX7_restores 27 = .ok (.return_, 1) := by decide +kernel
theorem dX7_bring_0 : decode cX7_bring 0 = .ok (.iload_n 1, 1) := by decide +kernel
theorem dX7_bring_1 : decode cX7_bring 1 = .ok (.iconst 1, 1) := by decide +kernel
theorem dX7_bring_2 : decode cX7_bring 2 = .ok (.bipush 20, 2) := by decide +kernel
theorem dX7_bring_4 : decode cX7_bring 4 = .ok (.invokestatic 26, 3) := by decide +kernel
theorem dX7_bring_7 : decode cX7_bring 7 = .ok (.ifCond .eq 22, 3) := by decide +kernel
theorem dX7_bring_10 : decode cX7_bring 10 = .ok (.iload_n 2, 1) := by decide +kernel
theorem dX7_bring_11 : decode cX7_bring 11 = .ok (.iconst 0, 1) := by decide +kernel
theorem dX7_bring_12 : decode cX7_bring 12 = .ok (.bipush 7, 2) := by decide +kernel
theorem dX7_bring_14 : decode cX7_bring 14 = .ok (.invokestatic 26, 3) := by decide +kernel
theorem dX7_bring_17 : decode cX7_bring 17 = .ok (.ifCond .eq 12, 3) := by decide +kernel
theorem dX7_bring_20 : decode cX7_bring 20 = .ok (.iload_n 3, 1) := by decide +kernel
theorem dX7_bring_21 : decode cX7_bring 21 = .ok (.iconst 0, 1) := by decide +kernel
theorem dX7_bring_22 : decode cX7_bring 22 = .ok (.iconst 3, 1) := by decide +kernel
theorem dX7_bring_23 : decode cX7_bring 23 = .ok (.invokestatic 26, 3) := by decide +kernel
theorem dX7_bring_26 : decode cX7_bring 26 = .ok (.ifCond .ne 6, 3) := by decide +kernel
theorem dX7_bring_29 : decode cX7_bring 29 = .ok (.ldc 30, 2) := by decide +kernel
theorem dX7_bring_31 : decode cX7_bring 31 = .ok (.ireturn, 1) := by decide +kernel
theorem dX7_bring_32 : decode cX7_bring 32 = .ok (.aload_n 0, 1) := by decide +kernel
theorem dX7_bring_33 : decode cX7_bring 33 = .ok (.getfield 7, 3) := by decide +kernel
theorem dX7_bring_36 : decode cX7_bring 36 = .ok (.bipush 16, 2) := by decide +kernel
theorem dX7_bring_38 : decode cX7_bring 38 = .ok (.iconst 4, 1) := by decide +kernel
theorem dX7_bring_39 : decode cX7_bring 39 = .ok (.iload_n 2, 1) := by decide +kernel
theorem dX7_bring_40 : decode cX7_bring 40 = .ok (.imul, 1) := by decide +kernel
theorem dX7_bring_41 : decode cX7_bring 41 = .ok (.iadd, 1) := by decide +kernel
theorem dX7_bring_42 : decode cX7_bring 42 = .ok (.iload_n 3, 1) := by decide +kernel
theorem dX7_bring_43 : decode cX7_bring 43 = .ok (.iadd, 1) := by decide +kernel
theorem dX7_bring_44 : decode cX7_bring 44 = .ok (.iaload, 1) := by decide +kernel
theorem dX7_bring_45 : decode cX7_bring 45 = .ok (.ifCond .lt 6, 3) := by decide +kernel
theorem dX7_bring_48 : decode cX7_bring 48 = .ok (.ldc 35, 2) := by decide +kernel
theorem dX7_bring_50 : decode cX7_bring 50 = .ok (.ireturn, 1) := by decide +kernel
theorem dX7_bring_51 : decode cX7_bring 51 = .ok (.aload_n 0, 1) := by decide +kernel
theorem dX7_bring_52 : decode cX7_bring 52 = .ok (.getfield 7, 3) := by decide +kernel
theorem dX7_bring_55 : decode cX7_bring 55 = .ok (.bipush 7, 2) := by decide +kernel
theorem dX7_bring_57 : decode cX7_bring 57 = .ok (.iaload, 1) := by decide +kernel
theorem dX7_bring_58 : decode cX7_bring 58 = .ok (.bipush 30, 2) := by decide +kernel
theorem dX7_bring_60 : decode cX7_bring 60 = .ok (.if_icmp .ne 6, 3) := by decide +kernel
theorem dX7_bring_63 : decode cX7_bring 63 = .ok (.ldc 36, 2) := by decide +kernel
theorem dX7_bring_65 : decode cX7_bring 65 = .ok (.ireturn, 1) := by decide +kernel
theorem dX7_bring_66 : decode cX7_bring 66 = .ok (.aload_n 0, 1) := by decide +kernel
theorem dX7_bring_67 : decode cX7_bring 67 = .ok (.invokevirtual 37, 3) := by decide +kernel
theorem dX7_bring_70 : decode cX7_bring 70 = .ok (.aload_n 0, 1) := by decide +kernel
theorem dX7_bring_71 : decode cX7_bring 71 = .ok (.getfield 7, 3) := by decide +kernel
theorem dX7_bring_74 : decode cX7_bring 74 = .ok (.bipush 7, 2) := by decide +kernel
theorem dX7_bring_76 : decode cX7_bring 76 = .ok (.iaload, 1) := by decide +kernel
theorem dX7_bring_77 : decode cX7_bring 77 = .ok (.istore 4, 2) := by decide +kernel
theorem dX7_bring_79 : decode cX7_bring 79 = .ok (.iconst 0, 1) := by decide +kernel
theorem dX7_bring_80 : decode cX7_bring 80 = .ok (.istore 5, 2) := by decide +kernel
theorem dX7_bring_82 : decode cX7_bring 82 = .ok (.iload 5, 2) := by decide +kernel
theorem dX7_bring_84 : decode cX7_bring 84 = .ok (.iconst 4, 1) := by decide +kernel
theorem dX7_bring_85 : decode cX7_bring 85 = .ok (.if_icmp .ge 25, 3) := by decide +kernel
theorem dX7_bring_88 : decode cX7_bring 88 = .ok (.aload_n 0, 1) := by decide +kernel
theorem dX7_bring_89 : decode cX7_bring 89 = .ok (.getfield 7, 3) := by decide +kernel
theorem dX7_bring_92 : decode cX7_bring 92 = .ok (.bipush 48, 2) := by decide +kernel
theorem dX7_bring_94 : decode cX7_bring 94 = .ok (.iconst 4, 1) := by decide +kernel
theorem dX7_bring_95 : decode cX7_bring 95 = .ok (.iload 4, 2) := by decide +kernel
theorem dX7_bring_97 : decode cX7_bring 97 = .ok (.imul, 1) := by decide +kernel
theorem dX7_bring_98 : decode cX7_bring 98 = .ok (.iadd, 1) := by decide +kernel
theorem dX7_bring_99 : decode cX7_bring 99 = .ok (.iload 5, 2) := by decide +kernel
theorem dX7_bring_101 : decode cX7_bring 101 = .ok (.iadd, 1) := by decide +kernel
theorem dX7_bring_102 : decode cX7_bring 102 = .ok (.iconst 0, 1) := by decide +kernel
theorem dX7_bring_103 : decode cX7_bring 103 = .ok (.iastore, 1) := by decide +kernel
theorem dX7_bring_104 : decode cX7_bring 104 = .ok (.iinc 5 1, 3) := by decide +kernel
theorem dX7_bring_107 : decode cX7_bring 107 = .ok (.goto (-25), 3) := by decide +kernel
theorem dX7_bring_110 : decode cX7_bring 110 = .ok (.aload_n 0, 1) := by decide +kernel
theorem dX7_bring_111 : decode cX7_bring 111 = .ok (.getfield 7, 3) := by decide +kernel
theorem dX7_bring_114 : decode cX7_bring 114 = .ok (.bipush 48, 2) := by decide +kernel
theorem dX7_bring_116 : decode cX7_bring 116 = .ok (.iconst 4, 1) := by decide +kernel
theorem dX7_bring_117 : decode cX7_bring 117 = .ok (.iload 4, 2) := by decide +kernel
theorem dX7_bring_119 : decode cX7_bring 119 = .ok (.imul, 1) := by decide +kernel
theorem dX7_bring_120 : decode cX7_bring 120 = .ok (.iadd, 1) := by decide +kernel
theorem dX7_bring_121 : decode cX7_bring 121 = .ok (.iload_n 1, 1) := by decide +kernel
theorem dX7_bring_122 : decode cX7_bring 122 = .ok (.iastore, 1) := by decide +kernel
theorem dX7_bring_123 : decode cX7_bring 123 = .ok (.aload_n 0, 1) := by decide +kernel
theorem dX7_bring_124 : decode cX7_bring 124 = .ok (.getfield 7, 3) := by decide +kernel
theorem dX7_bring_127 : decode cX7_bring 127 = .ok (.bipush 16, 2) := by decide +kernel
theorem dX7_bring_129 : decode cX7_bring 129 = .ok (.iconst 4, 1) := by decide +kernel
theorem dX7_bring_130 : decode cX7_bring 130 = .ok (.iload_n 2, 1) := by decide +kernel
theorem dX7_bring_131 : decode cX7_bring 131 = .ok (.imul, 1) := by decide +kernel
theorem dX7_bring_132 : decode cX7_bring 132 = .ok (.iadd, 1) := by decide +kernel
theorem dX7_bring_133 : decode cX7_bring 133 = .ok (.iload_n 3, 1) := by decide +kernel
theorem dX7_bring_134 : decode cX7_bring 134 = .ok (.iadd, 1) := by decide +kernel
theorem dX7_bring_135 : decode cX7_bring 135 = .ok (.iload 4, 2) := by decide +kernel
theorem dX7_bring_137 : decode cX7_bring 137 = .ok (.iastore, 1) := by decide +kernel
theorem dX7_bring_138 : decode cX7_bring 138 = .ok (.aload_n 0, 1) := by decide +kernel
theorem dX7_bring_139 : decode cX7_bring 139 = .ok (.getfield 7, 3) := by decide +kernel
theorem dX7_bring_142 : decode cX7_bring 142 = .ok (.bipush 7, 2) := by decide +kernel
theorem dX7_bring_144 : decode cX7_bring 144 = .ok (.dup2, 1) := by decide +kernel
theorem dX7_bring_145 : decode cX7_bring 145 = .ok (.iaload, 1) := by decide +kernel
theorem dX7_bring_146 : decode cX7_bring 146 = .ok (.iconst 1, 1) := by decide +kernel
theorem dX7_bring_147 : decode cX7_bring 147 = .ok (.iadd, 1) := by decide +kernel
theorem dX7_bring_148 : decode cX7_bring 148 = .ok (.iastore, 1) := by decide +kernel
theorem dX7_bring_149 : decode cX7_bring 149 = .ok (.aload_n 0, 1) := by decide +kernel
theorem dX7_bring_150 : decode cX7_bring 150 = .ok (.iload 4, 2) := by decide +kernel
theorem dX7_bring_152 : decode cX7_bring 152 = .ok (.invokevirtual 40, 3) := by decide +kernel
theorem dX7_bring_155 : decode cX7_bring 155 = .ok (.ireturn, 1) := by decide +kernel
theorem dX7_withNeighbors_0 : decode cX7_withNeighbors 0 = .ok (.iconst 0, 1) := by decide +kernel
theorem dX7_withNeighbors_1 : decode cX7_withNeighbors 1 = .ok (.istore_n 1, 1) := by decide +kernel
theorem dX7_withNeighbors_2 : decode cX7_withNeighbors 2 = .ok (.iconst 0, 1) := by decide +kernel
theorem dX7_withNeighbors_3 : decode cX7_withNeighbors 3 = .ok (.istore_n 2, 1) := by decide +kernel
theorem dX7_withNeighbors_4 : decode cX7_withNeighbors 4 = .ok (.iload_n 2, 1) := by decide +kernel
theorem dX7_withNeighbors_5 : decode cX7_withNeighbors 5 = .ok (.aload_n 0, 1) := by decide +kernel
theorem dX7_withNeighbors_6 : decode cX7_withNeighbors 6 = .ok (.getfield 7, 3) := by decide +kernel
theorem dX7_withNeighbors_9 : decode cX7_withNeighbors 9 = .ok (.bipush 7, 2) := by decide +kernel
theorem dX7_withNeighbors_11 : decode cX7_withNeighbors 11 = .ok (.iaload, 1) := by decide +kernel
theorem dX7_withNeighbors_12 : decode cX7_withNeighbors 12 = .ok (.if_icmp .ge 27, 3) := by decide +kernel
theorem dX7_withNeighbors_15 : decode cX7_withNeighbors 15 = .ok (.iload_n 1, 1) := by decide +kernel
theorem dX7_withNeighbors_16 : decode cX7_withNeighbors 16 = .ok (.aload_n 0, 1) := by decide +kernel
theorem dX7_withNeighbors_17 : decode cX7_withNeighbors 17 = .ok (.iload_n 2, 1) := by decide +kernel
theorem dX7_withNeighbors_18 : decode cX7_withNeighbors 18 = .ok (.iconst 2, 1) := by decide +kernel
theorem dX7_withNeighbors_19 : decode cX7_withNeighbors 19 = .ok (.invokevirtual 44, 3) := by decide +kernel
theorem dX7_withNeighbors_22 : decode cX7_withNeighbors 22 = .ok (.iconst 3, 1) := by decide +kernel
theorem dX7_withNeighbors_23 : decode cX7_withNeighbors 23 = .ok (.if_icmp .ne 7, 3) := by decide +kernel
theorem dX7_withNeighbors_26 : decode cX7_withNeighbors 26 = .ok (.iconst 1, 1) := by decide +kernel
theorem dX7_withNeighbors_27 : decode cX7_withNeighbors 27 = .ok (.goto 4, 3) := by decide +kernel
theorem dX7_withNeighbors_30 : decode cX7_withNeighbors 30 = .ok (.iconst 0, 1) := by decide +kernel
theorem dX7_withNeighbors_31 : decode cX7_withNeighbors 31 = .ok (.iadd, 1) := by decide +kernel
theorem dX7_withNeighbors_32 : decode cX7_withNeighbors 32 = .ok (.istore_n 1, 1) := by decide +kernel
theorem dX7_withNeighbors_33 : decode cX7_withNeighbors 33 = .ok (.iinc 2 1, 3) := by decide +kernel
theorem dX7_withNeighbors_36 : decode cX7_withNeighbors 36 = .ok (.goto (-32), 3) := by decide +kernel
theorem dX7_withNeighbors_39 : decode cX7_withNeighbors 39 = .ok (.iload_n 1, 1) := by decide +kernel
theorem dX7_withNeighbors_40 : decode cX7_withNeighbors 40 = .ok (.ireturn, 1) := by decide +kernel
theorem dX7_standsAt_0 : decode cX7_standsAt 0 = .ok (.iconst 0, 1) := by decide +kernel
theorem dX7_standsAt_1 : decode cX7_standsAt 1 = .ok (.istore_n 2, 1) := by decide +kernel
theorem dX7_standsAt_2 : decode cX7_standsAt 2 = .ok (.aload_n 0, 1) := by decide +kernel
theorem dX7_standsAt_3 : decode cX7_standsAt 3 = .ok (.getfield 7, 3) := by decide +kernel
theorem dX7_standsAt_6 : decode cX7_standsAt 6 = .ok (.bipush 16, 2) := by decide +kernel
theorem dX7_standsAt_8 : decode cX7_standsAt 8 = .ok (.iload_n 2, 1) := by decide +kernel
theorem dX7_standsAt_9 : decode cX7_standsAt 9 = .ok (.iadd, 1) := by decide +kernel
theorem dX7_standsAt_10 : decode cX7_standsAt 10 = .ok (.iaload, 1) := by decide +kernel
theorem dX7_standsAt_11 : decode cX7_standsAt 11 = .ok (.iload_n 1, 1) := by decide +kernel
theorem dX7_standsAt_12 : decode cX7_standsAt 12 = .ok (.if_icmp .eq 9, 3) := by decide +kernel
theorem dX7_standsAt_15 : decode cX7_standsAt 15 = .ok (.iinc 2 1, 3) := by decide +kernel
theorem dX7_standsAt_18 : decode cX7_standsAt 18 = .ok (.goto (-16), 3) := by decide +kernel
theorem dX7_standsAt_21 : decode cX7_standsAt 21 = .ok (.iload_n 2, 1) := by decide +kernel
theorem dX7_standsAt_22 : decode cX7_standsAt 22 = .ok (.ireturn, 1) := by decide +kernel
theorem dX7_send_0 : decode cX7_send 0 = .ok (.iload_n 2, 1) := by decide +kernel
theorem dX7_send_1 : decode cX7_send 1 = .ok (.iconst (-1), 1) := by decide +kernel
theorem dX7_send_2 : decode cX7_send 2 = .ok (.if_icmp .ne 12, 3) := by decide +kernel
theorem dX7_send_5 : decode cX7_send 5 = .ok (.iload_n 3, 1) := by decide +kernel
theorem dX7_send_6 : decode cX7_send 6 = .ok (.iconst (-1), 1) := by decide +kernel
theorem dX7_send_7 : decode cX7_send 7 = .ok (.if_icmp .ne 7, 3) := by decide +kernel
theorem dX7_send_10 : decode cX7_send 10 = .ok (.iconst 1, 1) := by decide +kernel
theorem dX7_send_11 : decode cX7_send 11 = .ok (.goto 4, 3) := by decide +kernel
theorem dX7_send_14 : decode cX7_send 14 = .ok (.iconst 0, 1) := by decide +kernel
theorem dX7_send_15 : decode cX7_send 15 = .ok (.istore 4, 2) := by decide +kernel
theorem dX7_send_17 : decode cX7_send 17 = .ok (.aload_n 0, 1) := by decide +kernel
theorem dX7_send_18 : decode cX7_send 18 = .ok (.iload_n 1, 1) := by decide +kernel
theorem dX7_send_19 : decode cX7_send 19 = .ok (.invokevirtual 48, 3) := by decide +kernel
theorem dX7_send_22 : decode cX7_send 22 = .ok (.ifCond .eq 27, 3) := by decide +kernel
theorem dX7_send_25 : decode cX7_send 25 = .ok (.iload 4, 2) := by decide +kernel
theorem dX7_send_27 : decode cX7_send 27 = .ok (.ifCond .ne 25, 3) := by decide +kernel
theorem dX7_send_30 : decode cX7_send 30 = .ok (.iload_n 2, 1) := by decide +kernel
theorem dX7_send_31 : decode cX7_send 31 = .ok (.iconst 0, 1) := by decide +kernel
theorem dX7_send_32 : decode cX7_send 32 = .ok (.bipush 7, 2) := by decide +kernel
theorem dX7_send_34 : decode cX7_send 34 = .ok (.invokestatic 26, 3) := by decide +kernel
theorem dX7_send_37 : decode cX7_send 37 = .ok (.ifCond .eq 12, 3) := by decide +kernel
theorem dX7_send_40 : decode cX7_send 40 = .ok (.iload_n 3, 1) := by decide +kernel
theorem dX7_send_41 : decode cX7_send 41 = .ok (.iconst 0, 1) := by decide +kernel
theorem dX7_send_42 : decode cX7_send 42 = .ok (.iconst 3, 1) := by decide +kernel
theorem dX7_send_43 : decode cX7_send 43 = .ok (.invokestatic 26, 3) := by decide +kernel
theorem dX7_send_46 : decode cX7_send 46 = .ok (.ifCond .ne 6, 3) := by decide +kernel
theorem dX7_send_49 : decode cX7_send 49 = .ok (.ldc 30, 2) := by decide +kernel
theorem dX7_send_51 : decode cX7_send 51 = .ok (.ireturn, 1) := by decide +kernel
theorem dX7_send_52 : decode cX7_send 52 = .ok (.aload_n 0, 1) := by decide +kernel
theorem dX7_send_53 : decode cX7_send 53 = .ok (.iload_n 1, 1) := by decide +kernel
theorem dX7_send_54 : decode cX7_send 54 = .ok (.iconst 2, 1) := by decide +kernel
theorem dX7_send_55 : decode cX7_send 55 = .ok (.invokevirtual 44, 3) := by decide +kernel
theorem dX7_send_58 : decode cX7_send 58 = .ok (.iload 4, 2) := by decide +kernel
theorem dX7_send_60 : decode cX7_send 60 = .ok (.ifCond .eq 7, 3) := by decide +kernel
theorem dX7_send_63 : decode cX7_send 63 = .ok (.iconst 0, 1) := by decide +kernel
theorem dX7_send_64 : decode cX7_send 64 = .ok (.goto 4, 3) := by decide +kernel
theorem dX7_send_67 : decode cX7_send 67 = .ok (.iconst 3, 1) := by decide +kernel
theorem dX7_send_68 : decode cX7_send 68 = .ok (.if_icmp .ne 24, 3) := by decide +kernel
theorem dX7_send_71 : decode cX7_send 71 = .ok (.iload 4, 2) := by decide +kernel
theorem dX7_send_73 : decode cX7_send 73 = .ok (.ifCond .ne 22, 3) := by decide +kernel
theorem dX7_send_76 : decode cX7_send 76 = .ok (.aload_n 0, 1) := by decide +kernel
theorem dX7_send_77 : decode cX7_send 77 = .ok (.getfield 7, 3) := by decide +kernel
theorem dX7_send_80 : decode cX7_send 80 = .ok (.bipush 16, 2) := by decide +kernel
theorem dX7_send_82 : decode cX7_send 82 = .ok (.iconst 4, 1) := by decide +kernel
theorem dX7_send_83 : decode cX7_send 83 = .ok (.iload_n 2, 1) := by decide +kernel
theorem dX7_send_84 : decode cX7_send 84 = .ok (.imul, 1) := by decide +kernel
theorem dX7_send_85 : decode cX7_send 85 = .ok (.iadd, 1) := by decide +kernel
theorem dX7_send_86 : decode cX7_send 86 = .ok (.iload_n 3, 1) := by decide +kernel
theorem dX7_send_87 : decode cX7_send 87 = .ok (.iadd, 1) := by decide +kernel
theorem dX7_send_88 : decode cX7_send 88 = .ok (.iaload, 1) := by decide +kernel
theorem dX7_send_89 : decode cX7_send 89 = .ok (.ifCond .lt 6, 3) := by decide +kernel
theorem dX7_send_92 : decode cX7_send 92 = .ok (.ldc 35, 2) := by decide +kernel
theorem dX7_send_94 : decode cX7_send 94 = .ok (.ireturn, 1) := by decide +kernel
theorem dX7_send_95 : decode cX7_send 95 = .ok (.aload_n 0, 1) := by decide +kernel
theorem dX7_send_96 : decode cX7_send 96 = .ok (.invokevirtual 37, 3) := by decide +kernel
theorem dX7_send_99 : decode cX7_send 99 = .ok (.aload_n 0, 1) := by decide +kernel
theorem dX7_send_100 : decode cX7_send 100 = .ok (.getfield 7, 3) := by decide +kernel
theorem dX7_send_103 : decode cX7_send 103 = .ok (.bipush 16, 2) := by decide +kernel
theorem dX7_send_105 : decode cX7_send 105 = .ok (.iload 4, 2) := by decide +kernel
theorem dX7_send_107 : decode cX7_send 107 = .ok (.ifCond .eq 11, 3) := by decide +kernel
theorem dX7_send_110 : decode cX7_send 110 = .ok (.aload_n 0, 1) := by decide +kernel
theorem dX7_send_111 : decode cX7_send 111 = .ok (.iload_n 1, 1) := by decide +kernel
theorem dX7_send_112 : decode cX7_send 112 = .ok (.invokevirtual 52, 3) := by decide +kernel
theorem dX7_send_115 : decode cX7_send 115 = .ok (.goto 8, 3) := by decide +kernel
theorem dX7_send_118 : decode cX7_send 118 = .ok (.iconst 4, 1) := by decide +kernel
theorem dX7_send_119 : decode cX7_send 119 = .ok (.iload_n 2, 1) := by decide +kernel
theorem dX7_send_120 : decode cX7_send 120 = .ok (.imul, 1) := by decide +kernel
theorem dX7_send_121 : decode cX7_send 121 = .ok (.iload_n 3, 1) := by decide +kernel
theorem dX7_send_122 : decode cX7_send 122 = .ok (.iadd, 1) := by decide +kernel
theorem dX7_send_123 : decode cX7_send 123 = .ok (.iadd, 1) := by decide +kernel
theorem dX7_send_124 : decode cX7_send 124 = .ok (.iload 4, 2) := by decide +kernel
theorem dX7_send_126 : decode cX7_send 126 = .ok (.ifCond .eq 7, 3) := by decide +kernel
theorem dX7_send_129 : decode cX7_send 129 = .ok (.iconst (-1), 1) := by decide +kernel
theorem dX7_send_130 : decode cX7_send 130 = .ok (.goto 4, 3) := by decide +kernel
theorem dX7_send_133 : decode cX7_send 133 = .ok (.iload_n 1, 1) := by decide +kernel
theorem dX7_send_134 : decode cX7_send 134 = .ok (.iastore, 1) := by decide +kernel
theorem dX7_send_135 : decode cX7_send 135 = .ok (.aload_n 0, 1) := by decide +kernel
theorem dX7_send_136 : decode cX7_send 136 = .ok (.iload_n 1, 1) := by decide +kernel
theorem dX7_send_137 : decode cX7_send 137 = .ok (.iload 4, 2) := by decide +kernel
theorem dX7_send_139 : decode cX7_send 139 = .ok (.ifCond .eq 7, 3) := by decide +kernel
theorem dX7_send_142 : decode cX7_send 142 = .ok (.iconst 3, 1) := by decide +kernel
theorem dX7_send_143 : decode cX7_send 143 = .ok (.goto 4, 3) := by decide +kernel
theorem dX7_send_146 : decode cX7_send 146 = .ok (.iconst 0, 1) := by decide +kernel
theorem dX7_send_147 : decode cX7_send 147 = .ok (.invokevirtual 55, 3) := by decide +kernel
theorem dX7_send_150 : decode cX7_send 150 = .ok (.aload_n 0, 1) := by decide +kernel
theorem dX7_send_151 : decode cX7_send 151 = .ok (.aload_n 0, 1) := by decide +kernel
theorem dX7_send_152 : decode cX7_send 152 = .ok (.invokevirtual 59, 3) := by decide +kernel
theorem dX7_send_155 : decode cX7_send 155 = .ok (.invokevirtual 40, 3) := by decide +kernel
theorem dX7_send_158 : decode cX7_send 158 = .ok (.ireturn, 1) := by decide +kernel
theorem dX7_weight_0 : decode cX7_weight 0 = .ok (.iconst 0, 1) := by decide +kernel
theorem dX7_weight_1 : decode cX7_weight 1 = .ok (.istore_n 1, 1) := by decide +kernel
theorem dX7_weight_2 : decode cX7_weight 2 = .ok (.iconst 0, 1) := by decide +kernel
theorem dX7_weight_3 : decode cX7_weight 3 = .ok (.istore_n 2, 1) := by decide +kernel
theorem dX7_weight_4 : decode cX7_weight 4 = .ok (.iload_n 2, 1) := by decide +kernel
theorem dX7_weight_5 : decode cX7_weight 5 = .ok (.aload_n 0, 1) := by decide +kernel
theorem dX7_weight_6 : decode cX7_weight 6 = .ok (.getfield 7, 3) := by decide +kernel
theorem dX7_weight_9 : decode cX7_weight 9 = .ok (.iconst 2, 1) := by decide +kernel
theorem dX7_weight_10 : decode cX7_weight 10 = .ok (.iaload, 1) := by decide +kernel
theorem dX7_weight_11 : decode cX7_weight 11 = .ok (.if_icmp .ge 25, 3) := by decide +kernel
theorem dX7_weight_14 : decode cX7_weight 14 = .ok (.iload_n 1, 1) := by decide +kernel
theorem dX7_weight_15 : decode cX7_weight 15 = .ok (.aload_n 0, 1) := by decide +kernel
theorem dX7_weight_16 : decode cX7_weight 16 = .ok (.aload_n 0, 1) := by decide +kernel
theorem dX7_weight_17 : decode cX7_weight 17 = .ok (.getfield 7, 3) := by decide +kernel
theorem dX7_weight_20 : decode cX7_weight 20 = .ok (.iconst 3, 1) := by decide +kernel
theorem dX7_weight_21 : decode cX7_weight 21 = .ok (.iload_n 2, 1) := by decide +kernel
theorem dX7_weight_22 : decode cX7_weight 22 = .ok (.iadd, 1) := by decide +kernel
theorem dX7_weight_23 : decode cX7_weight 23 = .ok (.iaload, 1) := by decide +kernel
theorem dX7_weight_24 : decode cX7_weight 24 = .ok (.iconst 0, 1) := by decide +kernel
theorem dX7_weight_25 : decode cX7_weight 25 = .ok (.invokevirtual 44, 3) := by decide +kernel
theorem dX7_weight_28 : decode cX7_weight 28 = .ok (.iadd, 1) := by decide +kernel
theorem dX7_weight_29 : decode cX7_weight 29 = .ok (.istore_n 1, 1) := by decide +kernel
theorem dX7_weight_30 : decode cX7_weight 30 = .ok (.iinc 2 1, 3) := by decide +kernel
theorem dX7_weight_33 : decode cX7_weight 33 = .ok (.goto (-29), 3) := by decide +kernel
theorem dX7_weight_36 : decode cX7_weight 36 = .ok (.iload_n 1, 1) := by decide +kernel
theorem dX7_weight_37 : decode cX7_weight 37 = .ok (.ireturn, 1) := by decide +kernel
theorem dX7_most_0 : decode cX7_most 0 = .ok (.aload_n 0, 1) := by decide +kernel
theorem dX7_most_1 : decode cX7_most 1 = .ok (.invokevirtual 63, 3) := by decide +kernel
theorem dX7_most_4 : decode cX7_most 4 = .ok (.bipush 10, 2) := by decide +kernel
theorem dX7_most_6 : decode cX7_most 6 = .ok (.if_icmp .gt 7, 3) := by decide +kernel
theorem dX7_most_9 : decode cX7_most 9 = .ok (.iconst 4, 1) := by decide +kernel
theorem dX7_most_10 : decode cX7_most 10 = .ok (.goto 17, 3) := by decide +kernel
theorem dX7_most_13 : decode cX7_most 13 = .ok (.aload_n 0, 1) := by decide +kernel
theorem dX7_most_14 : decode cX7_most 14 = .ok (.invokevirtual 63, 3) := by decide +kernel
theorem dX7_most_17 : decode cX7_most 17 = .ok (.bipush 20, 2) := by decide +kernel
theorem dX7_most_19 : decode cX7_most 19 = .ok (.if_icmp .gt 7, 3) := by decide +kernel
theorem dX7_most_22 : decode cX7_most 22 = .ok (.iconst 2, 1) := by decide +kernel
theorem dX7_most_23 : decode cX7_most 23 = .ok (.goto 4, 3) := by decide +kernel
theorem dX7_most_26 : decode cX7_most 26 = .ok (.iconst 1, 1) := by decide +kernel
theorem dX7_most_27 : decode cX7_most 27 = .ok (.ireturn, 1) := by decide +kernel
theorem dX7_comes_0 : decode cX7_comes 0 = .ok (.aload_n 0, 1) := by decide +kernel
theorem dX7_comes_1 : decode cX7_comes 1 = .ok (.getfield 7, 3) := by decide +kernel
theorem dX7_comes_4 : decode cX7_comes 4 = .ok (.iconst 3, 1) := by decide +kernel
theorem dX7_comes_5 : decode cX7_comes 5 = .ok (.aload_n 0, 1) := by decide +kernel
theorem dX7_comes_6 : decode cX7_comes 6 = .ok (.getfield 7, 3) := by decide +kernel
theorem dX7_comes_9 : decode cX7_comes 9 = .ok (.iconst 2, 1) := by decide +kernel
theorem dX7_comes_10 : decode cX7_comes 10 = .ok (.iaload, 1) := by decide +kernel
theorem dX7_comes_11 : decode cX7_comes 11 = .ok (.iadd, 1) := by decide +kernel
theorem dX7_comes_12 : decode cX7_comes 12 = .ok (.iload_n 1, 1) := by decide +kernel
theorem dX7_comes_13 : decode cX7_comes 13 = .ok (.iastore, 1) := by decide +kernel
