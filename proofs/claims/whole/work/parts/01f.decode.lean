theorem dX12_build_9 : decode cX12_build 9 = .ok (.istore_n 1, 1) := by decide +kernel
theorem dX12_build_10 : decode cX12_build 10 = .ok (.iload_n 1, 1) := by decide +kernel
theorem dX12_build_11 : decode cX12_build 11 = .ok (.bipush 64, 2) := by decide +kernel
theorem dX12_build_13 : decode cX12_build 13 = .ok (.if_icmp .ge 17, 3) := by decide +kernel
theorem dX12_build_16 : decode cX12_build 16 = .ok (.aload_n 0, 1) := by decide +kernel
theorem dX12_build_17 : decode cX12_build 17 = .ok (.getfield 59, 3) := by decide +kernel
theorem dX12_build_20 : decode cX12_build 20 = .ok (.iload_n 1, 1) := by decide +kernel
theorem dX12_build_21 : decode cX12_build 21 = .ok (.bipush (-9), 2) := by decide +kernel
theorem dX12_build_23 : decode cX12_build 23 = .ok (.iastore, 1) := by decide +kernel
theorem dX12_build_24 : decode cX12_build 24 = .ok (.iinc 1 1, 3) := by decide +kernel
theorem dX12_build_27 : decode cX12_build 27 = .ok (.goto (-17), 3) := by decide +kernel
theorem dX12_build_30 : decode cX12_build 30 = .ok (.aload_n 0, 1) := by decide +kernel
theorem dX12_build_31 : decode cX12_build 31 = .ok (.iconst 0, 1) := by decide +kernel
theorem dX12_build_32 : decode cX12_build 32 = .ok (.putfield 200, 3) := by decide +kernel
theorem dX12_build_35 : decode cX12_build 35 = .ok (.aload_n 0, 1) := by decide +kernel
theorem dX12_build_36 : decode cX12_build 36 = .ok (.iconst 0, 1) := by decide +kernel
theorem dX12_build_37 : decode cX12_build 37 = .ok (.invokevirtual 209, 3) := by decide +kernel
theorem dX12_build_40 : decode cX12_build 40 = .ok (.istore_n 1, 1) := by decide +kernel
theorem dX12_build_41 : decode cX12_build 41 = .ok (.iload_n 1, 1) := by decide +kernel
theorem dX12_build_42 : decode cX12_build 42 = .ok (.istore_n 2, 1) := by decide +kernel
theorem dX12_build_43 : decode cX12_build 43 = .ok (.iload_n 2, 1) := by decide +kernel
theorem dX12_build_44 : decode cX12_build 44 = .ok (.aload_n 0, 1) := by decide +kernel
theorem dX12_build_45 : decode cX12_build 45 = .ok (.getfield 200, 3) := by decide +kernel
theorem dX12_build_48 : decode cX12_build 48 = .ok (.if_icmp .ge 67, 3) := by decide +kernel
theorem dX12_build_51 : decode cX12_build 51 = .ok (.iconst 0, 1) := by decide +kernel
theorem dX12_build_52 : decode cX12_build 52 = .ok (.istore_n 3, 1) := by decide +kernel
theorem dX12_build_53 : decode cX12_build 53 = .ok (.iload_n 3, 1) := by decide +kernel
theorem dX12_build_54 : decode cX12_build 54 = .ok (.iconst 5, 1) := by decide +kernel
theorem dX12_build_55 : decode cX12_build 55 = .ok (.if_icmp .ge 54, 3) := by decide +kernel
theorem dX12_build_58 : decode cX12_build 58 = .ok (.aload_n 0, 1) := by decide +kernel
theorem dX12_build_59 : decode cX12_build 59 = .ok (.getfield 50, 3) := by decide +kernel
theorem dX12_build_62 : decode cX12_build 62 = .ok (.iconst 5, 1) := by decide +kernel
theorem dX12_build_63 : decode cX12_build 63 = .ok (.aload_n 0, 1) := by decide +kernel
theorem dX12_build_64 : decode cX12_build 64 = .ok (.getfield 62, 3) := by decide +kernel
theorem dX12_build_67 : decode cX12_build 67 = .ok (.iload_n 2, 1) := by decide +kernel
theorem dX12_build_68 : decode cX12_build 68 = .ok (.iaload, 1) := by decide +kernel
theorem dX12_build_69 : decode cX12_build 69 = .ok (.imul, 1) := by decide +kernel
theorem dX12_build_70 : decode cX12_build 70 = .ok (.iload_n 3, 1) := by decide +kernel
theorem dX12_build_71 : decode cX12_build 71 = .ok (.iadd, 1) := by decide +kernel
theorem dX12_build_72 : decode cX12_build 72 = .ok (.iaload, 1) := by decide +kernel
theorem dX12_build_73 : decode cX12_build 73 = .ok (.istore 4, 2) := by decide +kernel
theorem dX12_build_75 : decode cX12_build 75 = .ok (.aload_n 0, 1) := by decide +kernel
theorem dX12_build_76 : decode cX12_build 76 = .ok (.getfield 65, 3) := by decide +kernel
theorem dX12_build_79 : decode cX12_build 79 = .ok (.iconst 5, 1) := by decide +kernel
theorem dX12_build_80 : decode cX12_build 80 = .ok (.iload_n 2, 1) := by decide +kernel
theorem dX12_build_81 : decode cX12_build 81 = .ok (.imul, 1) := by decide +kernel
theorem dX12_build_82 : decode cX12_build 82 = .ok (.iload_n 3, 1) := by decide +kernel
theorem dX12_build_83 : decode cX12_build 83 = .ok (.iadd, 1) := by decide +kernel
theorem dX12_build_84 : decode cX12_build 84 = .ok (.iload 4, 2) := by decide +kernel
theorem dX12_build_86 : decode cX12_build 86 = .ok (.bipush (-5), 2) := by decide +kernel
theorem dX12_build_88 : decode cX12_build 88 = .ok (.if_icmp .ne 8, 3) := by decide +kernel
theorem dX12_build_91 : decode cX12_build 91 = .ok (.bipush (-5), 2) := by decide +kernel
theorem dX12_build_93 : decode cX12_build 93 = .ok (.goto 9, 3) := by decide +kernel
theorem dX12_build_96 : decode cX12_build 96 = .ok (.aload_n 0, 1) := by decide +kernel
theorem dX12_build_97 : decode cX12_build 97 = .ok (.iload 4, 2) := by decide +kernel
theorem dX12_build_99 : decode cX12_build 99 = .ok (.invokevirtual 209, 3) := by decide +kernel
theorem dX12_build_102 : decode cX12_build 102 = .ok (.iastore, 1) := by decide +kernel
theorem dX12_build_103 : decode cX12_build 103 = .ok (.iinc 3 1, 3) := by decide +kernel
theorem dX12_build_106 : decode cX12_build 106 = .ok (.goto (-53), 3) := by decide +kernel
theorem dX12_build_109 : decode cX12_build 109 = .ok (.iinc 2 1, 3) := by decide +kernel
theorem dX12_build_112 : decode cX12_build 112 = .ok (.goto (-69), 3) := by decide +kernel
theorem dX12_build_115 : decode cX12_build 115 = .ok (.return_, 1) := by decide +kernel
theorem dX12_stateOf_0 : decode cX12_stateOf 0 = .ok (.aload_n 0, 1) := by decide +kernel
theorem dX12_stateOf_1 : decode cX12_stateOf 1 = .ok (.getfield 59, 3) := by decide +kernel
theorem dX12_stateOf_4 : decode cX12_stateOf 4 = .ok (.aload_n 0, 1) := by decide +kernel
theorem dX12_stateOf_5 : decode cX12_stateOf 5 = .ok (.getfield 53, 3) := by decide +kernel
theorem dX12_stateOf_8 : decode cX12_stateOf 8 = .ok (.aload_n 0, 1) := by decide +kernel
theorem dX12_stateOf_9 : decode cX12_stateOf 9 = .ok (.getfield 47, 3) := by decide +kernel
theorem dX12_stateOf_12 : decode cX12_stateOf 12 = .ok (.iload_n 1, 1) := by decide +kernel
theorem dX12_stateOf_13 : decode cX12_stateOf 13 = .ok (.iaload, 1) := by decide +kernel
theorem dX12_stateOf_14 : decode cX12_stateOf 14 = .ok (.iaload, 1) := by decide +kernel
theorem dX12_stateOf_15 : decode cX12_stateOf 15 = .ok (.iaload, 1) := by decide +kernel
theorem dX12_stateOf_16 : decode cX12_stateOf 16 = .ok (.ireturn, 1) := by decide +kernel
theorem dX12_stateNow_0 : decode cX12_stateNow 0 = .ok (.aload_n 0, 1) := by decide +kernel
theorem dX12_stateNow_1 : decode cX12_stateNow 1 = .ok (.invokevirtual 212, 3) := by decide +kernel
theorem dX12_stateNow_4 : decode cX12_stateNow 4 = .ok (.aload_n 0, 1) := by decide +kernel
theorem dX12_stateNow_5 : decode cX12_stateNow 5 = .ok (.invokevirtual 215, 3) := by decide +kernel
theorem dX12_stateNow_8 : decode cX12_stateNow 8 = .ok (.aload_n 0, 1) := by decide +kernel
theorem dX12_stateNow_9 : decode cX12_stateNow 9 = .ok (.getfield 7, 3) := by decide +kernel
theorem dX12_stateNow_12 : decode cX12_stateNow 12 = .ok (.bipush 17, 2) := by decide +kernel
theorem dX12_stateNow_14 : decode cX12_stateNow 14 = .ok (.iaload, 1) := by decide +kernel
theorem dX12_stateNow_15 : decode cX12_stateNow 15 = .ok (.ifCond .ne 7, 3) := by decide +kernel
theorem dX12_stateNow_18 : decode cX12_stateNow 18 = .ok (.iconst 0, 1) := by decide +kernel
theorem dX12_stateNow_19 : decode cX12_stateNow 19 = .ok (.goto 21, 3) := by decide +kernel
theorem dX12_stateNow_22 : decode cX12_stateNow 22 = .ok (.aload_n 0, 1) := by decide +kernel
theorem dX12_stateNow_23 : decode cX12_stateNow 23 = .ok (.aload_n 0, 1) := by decide +kernel
theorem dX12_stateNow_24 : decode cX12_stateNow 24 = .ok (.getfield 32, 3) := by decide +kernel
theorem dX12_stateNow_27 : decode cX12_stateNow 27 = .ok (.aload_n 0, 1) := by decide +kernel
theorem dX12_stateNow_28 : decode cX12_stateNow 28 = .ok (.getfield 7, 3) := by decide +kernel
theorem dX12_stateNow_31 : decode cX12_stateNow 31 = .ok (.bipush 17, 2) := by decide +kernel
theorem dX12_stateNow_33 : decode cX12_stateNow 33 = .ok (.iaload, 1) := by decide +kernel
theorem dX12_stateNow_34 : decode cX12_stateNow 34 = .ok (.iconst 1, 1) := by decide +kernel
theorem dX12_stateNow_35 : decode cX12_stateNow 35 = .ok (.isub, 1) := by decide +kernel
theorem dX12_stateNow_36 : decode cX12_stateNow 36 = .ok (.iaload, 1) := by decide +kernel
theorem dX12_stateNow_37 : decode cX12_stateNow 37 = .ok (.invokevirtual 218, 3) := by decide +kernel
theorem dX12_stateNow_40 : decode cX12_stateNow 40 = .ok (.ireturn, 1) := by decide +kernel
theorem dX12_rule_0 : decode cX12_rule 0 = .ok (.iload_n 1, 1) := by decide +kernel
theorem dX12_rule_1 : decode cX12_rule 1 = .ok (.iconst 0, 1) := by decide +kernel
theorem dX12_rule_2 : decode cX12_rule 2 = .ok (.aload_n 0, 1) := by decide +kernel
theorem dX12_rule_3 : decode cX12_rule 3 = .ok (.getfield 7, 3) := by decide +kernel
theorem dX12_rule_6 : decode cX12_rule 6 = .ok (.iconst 0, 1) := by decide +kernel
theorem dX12_rule_7 : decode cX12_rule 7 = .ok (.iaload, 1) := by decide +kernel
theorem dX12_rule_8 : decode cX12_rule 8 = .ok (.iconst 1, 1) := by decide +kernel
theorem dX12_rule_9 : decode cX12_rule 9 = .ok (.isub, 1) := by decide +kernel
theorem dX12_rule_10 : decode cX12_rule 10 = .ok (.invokestatic 87, 3) := by decide +kernel
theorem dX12_rule_13 : decode cX12_rule 13 = .ok (.ifCond .eq 27, 3) := by decide +kernel
theorem dX12_rule_16 : decode cX12_rule 16 = .ok (.iload_n 2, 1) := by decide +kernel
theorem dX12_rule_17 : decode cX12_rule 17 = .ok (.iconst 0, 1) := by decide +kernel
theorem dX12_rule_18 : decode cX12_rule 18 = .ok (.iconst 2, 1) := by decide +kernel
theorem dX12_rule_19 : decode cX12_rule 19 = .ok (.invokestatic 87, 3) := by decide +kernel
theorem dX12_rule_22 : decode cX12_rule 22 = .ok (.ifCond .eq 18, 3) := by decide +kernel
theorem dX12_rule_25 : decode cX12_rule 25 = .ok (.aload_n 0, 1) := by decide +kernel
theorem dX12_rule_26 : decode cX12_rule 26 = .ok (.getfield 7, 3) := by decide +kernel
theorem dX12_rule_29 : decode cX12_rule 29 = .ok (.iconst 1, 1) := by decide +kernel
theorem dX12_rule_30 : decode cX12_rule 30 = .ok (.iconst 3, 1) := by decide +kernel
theorem dX12_rule_31 : decode cX12_rule 31 = .ok (.iload_n 1, 1) := by decide +kernel
theorem dX12_rule_32 : decode cX12_rule 32 = .ok (.imul, 1) := by decide +kernel
theorem dX12_rule_33 : decode cX12_rule 33 = .ok (.iadd, 1) := by decide +kernel
theorem dX12_rule_34 : decode cX12_rule 34 = .ok (.iload_n 2, 1) := by decide +kernel
theorem dX12_rule_35 : decode cX12_rule 35 = .ok (.iadd, 1) := by decide +kernel
theorem dX12_rule_36 : decode cX12_rule 36 = .ok (.iaload, 1) := by decide +kernel
theorem dX12_rule_37 : decode cX12_rule 37 = .ok (.goto 4, 3) := by decide +kernel
theorem dX12_rule_40 : decode cX12_rule 40 = .ok (.iconst (-1), 1) := by decide +kernel
theorem dX12_rule_41 : decode cX12_rule 41 = .ok (.ireturn, 1) := by decide +kernel
theorem dX12_chance_0 : decode cX12_chance 0 = .ok (.iload_n 1, 1) := by decide +kernel
theorem dX12_chance_1 : decode cX12_chance 1 = .ok (.invokestatic 169, 3) := by decide +kernel
theorem dX12_chance_4 : decode cX12_chance 4 = .ok (.ifCond .eq 15, 3) := by decide +kernel
theorem dX12_chance_7 : decode cX12_chance 7 = .ok (.aload_n 0, 1) := by decide +kernel
theorem dX12_chance_8 : decode cX12_chance 8 = .ok (.getfield 7, 3) := by decide +kernel
theorem dX12_chance_11 : decode cX12_chance 11 = .ok (.bipush 10, 2) := by decide +kernel
theorem dX12_chance_13 : decode cX12_chance 13 = .ok (.iload_n 1, 1) := by decide +kernel
theorem dX12_chance_14 : decode cX12_chance 14 = .ok (.iadd, 1) := by decide +kernel
theorem dX12_chance_15 : decode cX12_chance 15 = .ok (.iaload, 1) := by decide +kernel
theorem dX12_chance_16 : decode cX12_chance 16 = .ok (.goto 4, 3) := by decide +kernel
theorem dX12_chance_19 : decode cX12_chance 19 = .ok (.iconst (-1), 1) := by decide +kernel
theorem dX12_chance_20 : decode cX12_chance 20 = .ok (.ireturn, 1) := by decide +kernel
theorem dX12_row_0 : decode cX12_row 0 = .ok (.aload_n 0, 1) := by decide +kernel
theorem dX12_row_1 : decode cX12_row 1 = .ok (.iload_n 1, 1) := by decide +kernel
theorem dX12_row_2 : decode cX12_row 2 = .ok (.invokevirtual 172, 3) := by decide +kernel
theorem dX12_row_5 : decode cX12_row 5 = .ok (.ifCond .ne 5, 3) := by decide +kernel
theorem dX12_row_8 : decode cX12_row 8 = .ok (.iconst (-1), 1) := by decide +kernel
theorem dX12_row_9 : decode cX12_row 9 = .ok (.ireturn, 1) := by decide +kernel
theorem dX12_row_10 : decode cX12_row 10 = .ok (.aload_n 0, 1) := by decide +kernel
theorem dX12_row_11 : decode cX12_row 11 = .ok (.invokevirtual 212, 3) := by decide +kernel
theorem dX12_row_14 : decode cX12_row 14 = .ok (.iload_n 2, 1) := by decide +kernel
theorem dX12_row_15 : decode cX12_row 15 = .ok (.tableswitch 112 0 6 #[41, 51, 61, 68, 83, 90, 97], 41) := by decide +kernel
theorem dX12_row_56 : decode cX12_row 56 = .ok (.aload_n 0, 1) := by decide +kernel
theorem dX12_row_57 : decode cX12_row 57 = .ok (.getfield 7, 3) := by decide +kernel
theorem dX12_row_60 : decode cX12_row 60 = .ok (.bipush 18, 2) := by decide +kernel
theorem dX12_row_62 : decode cX12_row 62 = .ok (.iload_n 1, 1) := by decide +kernel
theorem dX12_row_63 : decode cX12_row 63 = .ok (.iadd, 1) := by decide +kernel
theorem dX12_row_64 : decode cX12_row 64 = .ok (.iaload, 1) := by decide +kernel
theorem dX12_row_65 : decode cX12_row 65 = .ok (.ireturn, 1) := by decide +kernel
theorem dX12_row_66 : decode cX12_row 66 = .ok (.aload_n 0, 1) := by decide +kernel
theorem dX12_row_67 : decode cX12_row 67 = .ok (.getfield 7, 3) := by decide +kernel
theorem dX12_row_70 : decode cX12_row 70 = .ok (.bipush 58, 2) := by decide +kernel
theorem dX12_row_72 : decode cX12_row 72 = .ok (.iload_n 1, 1) := by decide +kernel
theorem dX12_row_73 : decode cX12_row 73 = .ok (.iadd, 1) := by decide +kernel
theorem dX12_row_74 : decode cX12_row 74 = .ok (.iaload, 1) := by decide +kernel
theorem dX12_row_75 : decode cX12_row 75 = .ok (.ireturn, 1) := by decide +kernel
theorem dX12_row_76 : decode cX12_row 76 = .ok (.aload_n 0, 1) := by decide +kernel
theorem dX12_row_77 : decode cX12_row 77 = .ok (.getfield 29, 3) := by decide +kernel
theorem dX12_row_80 : decode cX12_row 80 = .ok (.iload_n 1, 1) := by decide +kernel
theorem dX12_row_81 : decode cX12_row 81 = .ok (.iaload, 1) := by decide +kernel
theorem dX12_row_82 : decode cX12_row 82 = .ok (.ireturn, 1) := by decide +kernel
theorem dX12_row_83 : decode cX12_row 83 = .ok (.aload_n 0, 1) := by decide +kernel
theorem dX12_row_84 : decode cX12_row 84 = .ok (.invokevirtual 215, 3) := by decide +kernel
theorem dX12_row_87 : decode cX12_row 87 = .ok (.aload_n 0, 1) := by decide +kernel
theorem dX12_row_88 : decode cX12_row 88 = .ok (.aload_n 0, 1) := by decide +kernel
theorem dX12_row_89 : decode cX12_row 89 = .ok (.getfield 32, 3) := by decide +kernel
theorem dX12_row_92 : decode cX12_row 92 = .ok (.iload_n 1, 1) := by decide +kernel
theorem dX12_row_93 : decode cX12_row 93 = .ok (.iaload, 1) := by decide +kernel
theorem dX12_row_94 : decode cX12_row 94 = .ok (.invokevirtual 218, 3) := by decide +kernel
theorem dX12_row_97 : decode cX12_row 97 = .ok (.ireturn, 1) := by decide +kernel
theorem dX12_row_98 : decode cX12_row 98 = .ok (.aload_n 0, 1) := by decide +kernel
theorem dX12_row_99 : decode cX12_row 99 = .ok (.getfield 35, 3) := by decide +kernel
theorem dX12_row_102 : decode cX12_row 102 = .ok (.iload_n 1, 1) := by decide +kernel
theorem dX12_row_103 : decode cX12_row 103 = .ok (.iaload, 1) := by decide +kernel
theorem dX12_row_104 : decode cX12_row 104 = .ok (.ireturn, 1) := by decide +kernel
theorem dX12_row_105 : decode cX12_row 105 = .ok (.aload_n 0, 1) := by decide +kernel
theorem dX12_row_106 : decode cX12_row 106 = .ok (.getfield 38, 3) := by decide +kernel
theorem dX12_row_109 : decode cX12_row 109 = .ok (.iload_n 1, 1) := by decide +kernel
theorem dX12_row_110 : decode cX12_row 110 = .ok (.iaload, 1) := by decide +kernel
theorem dX12_row_111 : decode cX12_row 111 = .ok (.ireturn, 1) := by decide +kernel
theorem dX12_row_112 : decode cX12_row 112 = .ok (.aload_n 0, 1) := by decide +kernel
theorem dX12_row_113 : decode cX12_row 113 = .ok (.getfield 41, 3) := by decide +kernel
theorem dX12_row_116 : decode cX12_row 116 = .ok (.iload_n 1, 1) := by decide +kernel
theorem dX12_row_117 : decode cX12_row 117 = .ok (.baload, 1) := by decide +kernel
theorem dX12_row_118 : decode cX12_row 118 = .ok (.ifCond .eq 7, 3) := by decide +kernel
theorem dX12_row_121 : decode cX12_row 121 = .ok (.iconst 1, 1) := by decide +kernel
theorem dX12_row_122 : decode cX12_row 122 = .ok (.goto 4, 3) := by decide +kernel
theorem dX12_row_125 : decode cX12_row 125 = .ok (.iconst 0, 1) := by decide +kernel
theorem dX12_row_126 : decode cX12_row 126 = .ok (.ireturn, 1) := by decide +kernel
theorem dX12_row_127 : decode cX12_row 127 = .ok (.iconst (-1), 1) := by decide +kernel
theorem dX12_row_128 : decode cX12_row 128 = .ok (.ireturn, 1) := by decide +kernel
theorem dX12_alarm_0 : decode cX12_alarm 0 = .ok (.iload_n 1, 1) := by decide +kernel
theorem dX12_alarm_1 : decode cX12_alarm 1 = .ok (.iconst (-1), 1) := by decide +kernel
theorem dX12_alarm_2 : decode cX12_alarm 2 = .ok (.if_icmp .ge 5, 3) := by decide +kernel
theorem dX12_alarm_5 : decode cX12_alarm 5 = .ok (.iconst (-1), 1) := by decide +kernel
theorem dX12_alarm_6 : decode cX12_alarm 6 = .ok (.ireturn, 1) := by decide +kernel
theorem dX12_alarm_7 : decode cX12_alarm 7 = .ok (.aload_n 0, 1) := by decide +kernel
theorem dX12_alarm_8 : decode cX12_alarm 8 = .ok (.invokevirtual 212, 3) := by decide +kernel
theorem dX12_alarm_11 : decode cX12_alarm 11 = .ok (.iconst 0, 1) := by decide +kernel
theorem dX12_alarm_12 : decode cX12_alarm 12 = .ok (.istore_n 2, 1) := by decide +kernel
theorem dX12_alarm_13 : decode cX12_alarm 13 = .ok (.iconst 0, 1) := by decide +kernel
theorem dX12_alarm_14 : decode cX12_alarm 14 = .ok (.istore_n 3, 1) := by decide +kernel
theorem dX12_alarm_15 : decode cX12_alarm 15 = .ok (.iload_n 3, 1) := by decide +kernel
theorem dX12_alarm_16 : decode cX12_alarm 16 = .ok (.aload_n 0, 1) := by decide +kernel
theorem dX12_alarm_17 : decode cX12_alarm 17 = .ok (.getfield 7, 3) := by decide +kernel
theorem dX12_alarm_20 : decode cX12_alarm 20 = .ok (.bipush 17, 2) := by decide +kernel
theorem dX12_alarm_22 : decode cX12_alarm 22 = .ok (.iaload, 1) := by decide +kernel
theorem dX12_alarm_23 : decode cX12_alarm 23 = .ok (.if_icmp .ge 36, 3) := by decide +kernel
theorem dX12_alarm_26 : decode cX12_alarm 26 = .ok (.aload_n 0, 1) := by decide +kernel
theorem dX12_alarm_27 : decode cX12_alarm 27 = .ok (.getfield 29, 3) := by decide +kernel
theorem dX12_alarm_30 : decode cX12_alarm 30 = .ok (.iload_n 3, 1) := by decide +kernel
theorem dX12_alarm_31 : decode cX12_alarm 31 = .ok (.iaload, 1) := by decide +kernel
theorem dX12_alarm_32 : decode cX12_alarm 32 = .ok (.ifCond .eq 21, 3) := by decide +kernel
theorem dX12_alarm_35 : decode cX12_alarm 35 = .ok (.iload_n 2, 1) := by decide +kernel
theorem dX12_alarm_36 : decode cX12_alarm 36 = .ok (.iload_n 1, 1) := by decide +kernel
theorem dX12_alarm_37 : decode cX12_alarm 37 = .ok (.if_icmp .ne 13, 3) := by decide +kernel
theorem dX12_alarm_40 : decode cX12_alarm 40 = .ok (.aload_n 0, 1) := by decide +kernel
theorem dX12_alarm_41 : decode cX12_alarm 41 = .ok (.getfield 7, 3) := by decide +kernel
theorem dX12_alarm_44 : decode cX12_alarm 44 = .ok (.bipush 18, 2) := by decide +kernel
theorem dX12_alarm_46 : decode cX12_alarm 46 = .ok (.iload_n 3, 1) := by decide +kernel
theorem dX12_alarm_47 : decode cX12_alarm 47 = .ok (.iadd, 1) := by decide +kernel
theorem dX12_alarm_48 : decode cX12_alarm 48 = .ok (.iaload, 1) := by decide +kernel
theorem dX12_alarm_49 : decode cX12_alarm 49 = .ok (.ireturn, 1) := by decide +kernel
theorem dX12_alarm_50 : decode cX12_alarm 50 = .ok (.iinc 2 1, 3) := by decide +kernel
theorem dX12_alarm_53 : decode cX12_alarm 53 = .ok (.iinc 3 1, 3) := by decide +kernel
theorem dX12_alarm_56 : decode cX12_alarm 56 = .ok (.goto (-41), 3) := by decide +kernel
theorem dX12_alarm_59 : decode cX12_alarm 59 = .ok (.iload_n 1, 1) := by decide +kernel
theorem dX12_alarm_60 : decode cX12_alarm 60 = .ok (.iconst (-1), 1) := by decide +kernel
theorem dX12_alarm_61 : decode cX12_alarm 61 = .ok (.if_icmp .ne 7, 3) := by decide +kernel
theorem dX12_alarm_64 : decode cX12_alarm 64 = .ok (.iload_n 2, 1) := by decide +kernel
theorem dX12_alarm_65 : decode cX12_alarm 65 = .ok (.goto 5, 3) := by decide +kernel
theorem dX12_alarm_68 : decode cX12_alarm 68 = .ok (.bipush (-9), 2) := by decide +kernel
theorem dX12_alarm_70 : decode cX12_alarm 70 = .ok (.ireturn, 1) := by decide +kernel
theorem dX12_signal_0 : decode cX12_signal 0 = .ok (.iload_n 1, 1) := by decide +kernel
theorem dX12_signal_1 : decode cX12_signal 1 = .ok (.iconst (-1), 1) := by decide +kernel
theorem dX12_signal_2 : decode cX12_signal 2 = .ok (.if_icmp .ge 5, 3) := by decide +kernel
theorem dX12_signal_5 : decode cX12_signal 5 = .ok (.iconst (-1), 1) := by decide +kernel
theorem dX12_signal_6 : decode cX12_signal 6 = .ok (.ireturn, 1) := by decide +kernel
theorem dX12_signal_7 : decode cX12_signal 7 = .ok (.aload_n 0, 1) := by decide +kernel
theorem dX12_signal_8 : decode cX12_signal 8 = .ok (.invokevirtual 212, 3) := by decide +kernel
theorem dX12_signal_11 : decode cX12_signal 11 = .ok (.iconst 0, 1) := by decide +kernel
theorem dX12_signal_12 : decode cX12_signal 12 = .ok (.istore_n 2, 1) := by decide +kernel
theorem dX12_signal_13 : decode cX12_signal 13 = .ok (.iconst 0, 1) := by decide +kernel
theorem dX12_signal_14 : decode cX12_signal 14 = .ok (.istore_n 3, 1) := by decide +kernel
theorem dX12_signal_15 : decode cX12_signal 15 = .ok (.iload_n 3, 1) := by decide +kernel
theorem dX12_signal_16 : decode cX12_signal 16 = .ok (.aload_n 0, 1) := by decide +kernel
theorem dX12_signal_17 : decode cX12_signal 17 = .ok (.getfield 7, 3) := by decide +kernel
theorem dX12_signal_20 : decode cX12_signal 20 = .ok (.bipush 17, 2) := by decide +kernel
theorem dX12_signal_22 : decode cX12_signal 22 = .ok (.iaload, 1) := by decide +kernel
theorem dX12_signal_23 : decode cX12_signal 23 = .ok (.if_icmp .ge 36, 3) := by decide +kernel
theorem dX12_signal_26 : decode cX12_signal 26 = .ok (.aload_n 0, 1) := by decide +kernel
theorem dX12_signal_27 : decode cX12_signal 27 = .ok (.getfield 41, 3) := by decide +kernel
theorem dX12_signal_30 : decode cX12_signal 30 = .ok (.iload_n 3, 1) := by decide +kernel
theorem dX12_signal_31 : decode cX12_signal 31 = .ok (.baload, 1) := by decide +kernel
theorem dX12_signal_32 : decode cX12_signal 32 = .ok (.ifCond .eq 21, 3) := by decide +kernel
theorem dX12_signal_35 : decode cX12_signal 35 = .ok (.iload_n 2, 1) := by decide +kernel
theorem dX12_signal_36 : decode cX12_signal 36 = .ok (.iload_n 1, 1) := by decide +kernel
theorem dX12_signal_37 : decode cX12_signal 37 = .ok (.if_icmp .ne 13, 3) := by decide +kernel
theorem dX12_signal_40 : decode cX12_signal 40 = .ok (.aload_n 0, 1) := by decide +kernel
theorem dX12_signal_41 : decode cX12_signal 41 = .ok (.getfield 7, 3) := by decide +kernel
theorem dX12_signal_44 : decode cX12_signal 44 = .ok (.bipush 18, 2) := by decide +kernel
theorem dX12_signal_46 : decode cX12_signal 46 = .ok (.iload_n 3, 1) := by decide +kernel
theorem dX12_signal_47 : decode cX12_signal 47 = .ok (.iadd, 1) := by decide +kernel
theorem dX12_signal_48 : decode cX12_signal 48 = .ok (.iaload, 1) := by decide +kernel
theorem dX12_signal_49 : decode cX12_signal 49 = .ok (.ireturn, 1) := by decide +kernel
theorem dX12_signal_50 : decode cX12_signal 50 = .ok (.iinc 2 1, 3) := by decide +kernel
theorem dX12_signal_53 : decode cX12_signal 53 = .ok (.iinc 3 1, 3) := by decide +kernel
theorem dX12_signal_56 : decode cX12_signal 56 = .ok (.goto (-41), 3) := by decide +kernel
theorem dX12_signal_59 : decode cX12_signal 59 = .ok (.iload_n 1, 1) := by decide +kernel
theorem dX12_signal_60 : decode cX12_signal 60 = .ok (.iconst (-1), 1) := by decide +kernel
theorem dX12_signal_61 : decode cX12_signal 61 = .ok (.if_icmp .ne 7, 3) := by decide +kernel
theorem dX12_signal_64 : decode cX12_signal 64 = .ok (.iload_n 2, 1) := by decide +kernel
theorem dX12_signal_65 : decode cX12_signal 65 = .ok (.goto 5, 3) := by decide +kernel
theorem dX12_signal_68 : decode cX12_signal 68 = .ok (.bipush (-9), 2) := by decide +kernel
theorem dX12_signal_70 : decode cX12_signal 70 = .ok (.ireturn, 1) := by decide +kernel
theorem dX12_step_0 : decode cX12_step 0 = .ok (.aload_n 0, 1) := by decide +kernel
theorem dX12_step_1 : decode cX12_step 1 = .ok (.invokevirtual 215, 3) := by decide +kernel
theorem dX12_step_4 : decode cX12_step 4 = .ok (.iload_n 1, 1) := by decide +kernel
theorem dX12_step_5 : decode cX12_step 5 = .ok (.iconst 0, 1) := by decide +kernel
theorem dX12_step_6 : decode cX12_step 6 = .ok (.aload_n 0, 1) := by decide +kernel
theorem dX12_step_7 : decode cX12_step 7 = .ok (.getfield 200, 3) := by decide +kernel
theorem dX12_step_10 : decode cX12_step 10 = .ok (.iconst 1, 1) := by decide +kernel
theorem dX12_step_11 : decode cX12_step 11 = .ok (.isub, 1) := by decide +kernel
theorem dX12_step_12 : decode cX12_step 12 = .ok (.invokestatic 87, 3) := by decide +kernel
theorem dX12_step_15 : decode cX12_step 15 = .ok (.ifCond .eq 23, 3) := by decide +kernel
theorem dX12_step_18 : decode cX12_step 18 = .ok (.iload_n 2, 1) := by decide +kernel
theorem dX12_step_19 : decode cX12_step 19 = .ok (.invokestatic 169, 3) := by decide +kernel
theorem dX12_step_22 : decode cX12_step 22 = .ok (.ifCond .eq 16, 3) := by decide +kernel
theorem dX12_step_25 : decode cX12_step 25 = .ok (.aload_n 0, 1) := by decide +kernel
theorem dX12_step_26 : decode cX12_step 26 = .ok (.getfield 65, 3) := by decide +kernel
theorem dX12_step_29 : decode cX12_step 29 = .ok (.iconst 5, 1) := by decide +kernel
theorem dX12_step_30 : decode cX12_step 30 = .ok (.iload_n 1, 1) := by decide +kernel
theorem dX12_step_31 : decode cX12_step 31 = .ok (.imul, 1) := by decide +kernel
theorem dX12_step_32 : decode cX12_step 32 = .ok (.iload_n 2, 1) := by decide +kernel
theorem dX12_step_33 : decode cX12_step 33 = .ok (.iadd, 1) := by decide +kernel
theorem dX12_step_34 : decode cX12_step 34 = .ok (.iaload, 1) := by decide +kernel
theorem dX12_step_35 : decode cX12_step 35 = .ok (.goto 4, 3) := by decide +kernel
theorem dX12_step_38 : decode cX12_step 38 = .ok (.iconst (-1), 1) := by decide +kernel
theorem dX12_step_39 : decode cX12_step 39 = .ok (.ireturn, 1) := by decide +kernel
theorem dX12_farBehind_0 : decode cX12_farBehind 0 = .ok (.aload_n 0, 1) := by decide +kernel
theorem dX12_farBehind_1 : decode cX12_farBehind 1 = .ok (.getfield 65, 3) := by decide +kernel
theorem dX12_farBehind_4 : decode cX12_farBehind 4 = .ok (.iconst 5, 1) := by decide +kernel
theorem dX12_farBehind_5 : decode cX12_farBehind 5 = .ok (.iload_n 1, 1) := by decide +kernel
theorem dX12_farBehind_6 : decode cX12_farBehind 6 = .ok (.imul, 1) := by decide +kernel
theorem dX12_farBehind_7 : decode cX12_farBehind 7 = .ok (.iload_n 2, 1) := by decide +kernel
theorem dX12_farBehind_8 : decode cX12_farBehind 8 = .ok (.iadd, 1) := by decide +kernel
theorem dX12_farBehind_9 : decode cX12_farBehind 9 = .ok (.iaload, 1) := by decide +kernel
theorem dX12_farBehind_10 : decode cX12_farBehind 10 = .ok (.istore_n 3, 1) := by decide +kernel
theorem dX12_farBehind_11 : decode cX12_farBehind 11 = .ok (.iload_n 3, 1) := by decide +kernel
theorem dX12_farBehind_12 : decode cX12_farBehind 12 = .ok (.bipush (-5), 2) := by decide +kernel
theorem dX12_farBehind_14 : decode cX12_farBehind 14 = .ok (.if_icmp .ne 7, 3) := by decide +kernel
theorem dX12_farBehind_17 : decode cX12_farBehind 17 = .ok (.iconst 0, 1) := by decide +kernel
theorem dX12_farBehind_18 : decode cX12_farBehind 18 = .ok (.goto 9, 3) := by decide +kernel
theorem dX12_farBehind_21 : decode cX12_farBehind 21 = .ok (.aload_n 0, 1) := by decide +kernel
theorem dX12_farBehind_22 : decode cX12_farBehind 22 = .ok (.getfield 68, 3) := by decide +kernel
theorem dX12_farBehind_25 : decode cX12_farBehind 25 = .ok (.iload_n 3, 1) := by decide +kernel
theorem dX12_farBehind_26 : decode cX12_farBehind 26 = .ok (.iaload, 1) := by decide +kernel
theorem dX12_farBehind_27 : decode cX12_farBehind 27 = .ok (.ireturn, 1) := by decide +kernel
theorem dX12_findFar_0 : decode cX12_findFar 0 = .ok (.iconst 0, 1) := by decide +kernel
theorem dX12_findFar_1 : decode cX12_findFar 1 = .ok (.istore_n 1, 1) := by decide +kernel
theorem dX12_findFar_2 : decode cX12_findFar 2 = .ok (.iload_n 1, 1) := by decide +kernel
theorem dX12_findFar_3 : decode cX12_findFar 3 = .ok (.aload_n 0, 1) := by decide +kernel
theorem dX12_findFar_4 : decode cX12_findFar 4 = .ok (.getfield 200, 3) := by decide +kernel
theorem dX12_findFar_7 : decode cX12_findFar 7 = .ok (.if_icmp .ge 17, 3) := by decide +kernel
theorem dX12_findFar_10 : decode cX12_findFar 10 = .ok (.aload_n 0, 1) := by decide +kernel
theorem dX12_findFar_11 : decode cX12_findFar 11 = .ok (.getfield 68, 3) := by decide +kernel
theorem dX12_findFar_14 : decode cX12_findFar 14 = .ok (.iload_n 1, 1) := by decide +kernel
theorem dX12_findFar_15 : decode cX12_findFar 15 = .ok (.bipush 100, 2) := by decide +kernel
theorem dX12_findFar_17 : decode cX12_findFar 17 = .ok (.iastore, 1) := by decide +kernel
theorem dX12_findFar_18 : decode cX12_findFar 18 = .ok (.iinc 1 1, 3) := by decide +kernel
theorem dX12_findFar_21 : decode cX12_findFar 21 = .ok (.goto (-19), 3) := by decide +kernel
theorem dX12_findFar_24 : decode cX12_findFar 24 = .ok (.iconst 0, 1) := by decide +kernel
theorem dX12_findFar_25 : decode cX12_findFar 25 = .ok (.istore_n 1, 1) := by decide +kernel
theorem dX12_findFar_26 : decode cX12_findFar 26 = .ok (.iload_n 1, 1) := by decide +kernel
theorem dX12_findFar_27 : decode cX12_findFar 27 = .ok (.aload_n 0, 1) := by decide +kernel
theorem dX12_findFar_28 : decode cX12_findFar 28 = .ok (.getfield 200, 3) := by decide +kernel
theorem dX12_findFar_31 : decode cX12_findFar 31 = .ok (.if_icmp .ge 76, 3) := by decide +kernel
theorem dX12_findFar_34 : decode cX12_findFar 34 = .ok (.iconst 0, 1) := by decide +kernel
theorem dX12_findFar_35 : decode cX12_findFar 35 = .ok (.istore_n 2, 1) := by decide +kernel
theorem dX12_findFar_36 : decode cX12_findFar 36 = .ok (.iload_n 2, 1) := by decide +kernel
theorem dX12_findFar_37 : decode cX12_findFar 37 = .ok (.aload_n 0, 1) := by decide +kernel
theorem dX12_findFar_38 : decode cX12_findFar 38 = .ok (.getfield 200, 3) := by decide +kernel
theorem dX12_findFar_41 : decode cX12_findFar 41 = .ok (.if_icmp .ge 60, 3) := by decide +kernel
theorem dX12_findFar_44 : decode cX12_findFar 44 = .ok (.iconst 0, 1) := by decide +kernel
theorem dX12_findFar_45 : decode cX12_findFar 45 = .ok (.istore_n 3, 1) := by decide +kernel
theorem dX12_findFar_46 : decode cX12_findFar 46 = .ok (.iload_n 3, 1) := by decide +kernel
theorem dX12_findFar_47 : decode cX12_findFar 47 = .ok (.iconst 5, 1) := by decide +kernel
theorem dX12_findFar_48 : decode cX12_findFar 48 = .ok (.if_icmp .ge 47, 3) := by decide +kernel
theorem dX12_findFar_51 : decode cX12_findFar 51 = .ok (.aload_n 0, 1) := by decide +kernel
theorem dX12_findFar_52 : decode cX12_findFar 52 = .ok (.iload_n 2, 1) := by decide +kernel
theorem dX12_findFar_53 : decode cX12_findFar 53 = .ok (.iload_n 3, 1) := by decide +kernel
theorem dX12_findFar_54 : decode cX12_findFar 54 = .ok (.invokevirtual 221, 3) := by decide +kernel
theorem dX12_findFar_57 : decode cX12_findFar 57 = .ok (.iconst 1, 1) := by decide +kernel
theorem dX12_findFar_58 : decode cX12_findFar 58 = .ok (.iadd, 1) := by decide +kernel
theorem dX12_findFar_59 : decode cX12_findFar 59 = .ok (.istore 4, 2) := by decide +kernel
theorem dX12_findFar_61 : decode cX12_findFar 61 = .ok (.aload_n 0, 1) := by decide +kernel
theorem dX12_findFar_62 : decode cX12_findFar 62 = .ok (.getfield 68, 3) := by decide +kernel
theorem dX12_findFar_65 : decode cX12_findFar 65 = .ok (.iload_n 2, 1) := by decide +kernel
theorem dX12_findFar_66 : decode cX12_findFar 66 = .ok (.iload 4, 2) := by decide +kernel
theorem dX12_findFar_68 : decode cX12_findFar 68 = .ok (.aload_n 0, 1) := by decide +kernel
theorem dX12_findFar_69 : decode cX12_findFar 69 = .ok (.getfield 68, 3) := by decide +kernel
theorem dX12_findFar_72 : decode cX12_findFar 72 = .ok (.iload_n 2, 1) := by decide +kernel
theorem dX12_findFar_73 : decode cX12_findFar 73 = .ok (.iaload, 1) := by decide +kernel
theorem dX12_findFar_74 : decode cX12_findFar 74 = .ok (.if_icmp .ge 8, 3) := by decide +kernel
theorem dX12_findFar_77 : decode cX12_findFar 77 = .ok (.iload 4, 2) := by decide +kernel
theorem dX12_findFar_79 : decode cX12_findFar 79 = .ok (.goto 9, 3) := by decide +kernel
theorem dX12_findFar_82 : decode cX12_findFar 82 = .ok (.aload_n 0, 1) := by decide +kernel
theorem dX12_findFar_83 : decode cX12_findFar 83 = .ok (.getfield 68, 3) := by decide +kernel
theorem dX12_findFar_86 : decode cX12_findFar 86 = .ok (.iload_n 2, 1) := by decide +kernel
theorem dX12_findFar_87 : decode cX12_findFar 87 = .ok (.iaload, 1) := by decide +kernel
theorem dX12_findFar_88 : decode cX12_findFar 88 = .ok (.iastore, 1) := by decide +kernel
theorem dX12_findFar_89 : decode cX12_findFar 89 = .ok (.iinc 3 1, 3) := by decide +kernel
theorem dX12_findFar_92 : decode cX12_findFar 92 = .ok (.goto (-46), 3) := by decide +kernel
theorem dX12_findFar_95 : decode cX12_findFar 95 = .ok (.iinc 2 1, 3) := by decide +kernel
theorem dX12_findFar_98 : decode cX12_findFar 98 = .ok (.goto (-62), 3) := by decide +kernel
theorem dX12_findFar_101 : decode cX12_findFar 101 = .ok (.iinc 1 1, 3) := by decide +kernel
theorem dX12_findFar_104 : decode cX12_findFar 104 = .ok (.goto (-78), 3) := by decide +kernel
theorem dX12_findFar_107 : decode cX12_findFar 107 = .ok (.return_, 1) := by decide +kernel
theorem dX12_soonest_0 : decode cX12_soonest 0 = .ok (.iload_n 1, 1) := by decide +kernel
theorem dX12_soonest_1 : decode cX12_soonest 1 = .ok (.iconst (-1), 1) := by decide +kernel
theorem dX12_soonest_2 : decode cX12_soonest 2 = .ok (.if_icmp .ge 5, 3) := by decide +kernel
theorem dX12_soonest_5 : decode cX12_soonest 5 = .ok (.iconst (-1), 1) := by decide +kernel
theorem dX12_soonest_6 : decode cX12_soonest 6 = .ok (.ireturn, 1) := by decide +kernel
theorem dX12_soonest_7 : decode cX12_soonest 7 = .ok (.aload_n 0, 1) := by decide +kernel
theorem dX12_soonest_8 : decode cX12_soonest 8 = .ok (.invokevirtual 224, 3) := by decide +kernel
theorem dX12_soonest_11 : decode cX12_soonest 11 = .ok (.istore_n 2, 1) := by decide +kernel
theorem dX12_soonest_12 : decode cX12_soonest 12 = .ok (.aload_n 0, 1) := by decide +kernel
theorem dX12_soonest_13 : decode cX12_soonest 13 = .ok (.invokevirtual 227, 3) := by decide +kernel
theorem dX12_soonest_16 : decode cX12_soonest 16 = .ok (.aload_n 0, 1) := by decide +kernel
theorem dX12_soonest_17 : decode cX12_soonest 17 = .ok (.getfield 68, 3) := by decide +kernel
theorem dX12_soonest_20 : decode cX12_soonest 20 = .ok (.iload_n 2, 1) := by decide +kernel
theorem dX12_soonest_21 : decode cX12_soonest 21 = .ok (.iaload, 1) := by decide +kernel
theorem dX12_soonest_22 : decode cX12_soonest 22 = .ok (.istore_n 3, 1) := by decide +kernel
theorem dX12_soonest_23 : decode cX12_soonest 23 = .ok (.iload_n 3, 1) := by decide +kernel
theorem dX12_soonest_24 : decode cX12_soonest 24 = .ok (.bipush 100, 2) := by decide +kernel
theorem dX12_soonest_26 : decode cX12_soonest 26 = .ok (.if_icmp .eq 8, 3) := by decide +kernel
theorem dX12_soonest_29 : decode cX12_soonest 29 = .ok (.iload_n 1, 1) := by decide +kernel
theorem dX12_soonest_30 : decode cX12_soonest 30 = .ok (.iload_n 3, 1) := by decide +kernel
theorem dX12_soonest_31 : decode cX12_soonest 31 = .ok (.if_icmp .lt 6, 3) := by decide +kernel
theorem dX12_soonest_34 : decode cX12_soonest 34 = .ok (.bipush (-9), 2) := by decide +kernel
theorem dX12_soonest_36 : decode cX12_soonest 36 = .ok (.ireturn, 1) := by decide +kernel
theorem dX12_soonest_37 : decode cX12_soonest 37 = .ok (.iload_n 1, 1) := by decide +kernel
theorem dX12_soonest_38 : decode cX12_soonest 38 = .ok (.iconst (-1), 1) := by decide +kernel
theorem dX12_soonest_39 : decode cX12_soonest 39 = .ok (.if_icmp .ne 5, 3) := by decide +kernel
theorem dX12_soonest_42 : decode cX12_soonest 42 = .ok (.iload_n 3, 1) := by decide +kernel
theorem dX12_soonest_43 : decode cX12_soonest 43 = .ok (.ireturn, 1) := by decide +kernel
theorem dX12_soonest_44 : decode cX12_soonest 44 = .ok (.iconst 0, 1) := by decide +kernel
theorem dX12_soonest_45 : decode cX12_soonest 45 = .ok (.istore 4, 2) := by decide +kernel
theorem dX12_soonest_47 : decode cX12_soonest 47 = .ok (.iconst 0, 1) := by decide +kernel
theorem dX12_soonest_48 : decode cX12_soonest 48 = .ok (.istore 5, 2) := by decide +kernel
theorem dX12_soonest_50 : decode cX12_soonest 50 = .ok (.iload 5, 2) := by decide +kernel
theorem dX12_soonest_52 : decode cX12_soonest 52 = .ok (.iload_n 1, 1) := by decide +kernel
theorem dX12_soonest_53 : decode cX12_soonest 53 = .ok (.if_icmp .gt 56, 3) := by decide +kernel
theorem dX12_soonest_56 : decode cX12_soonest 56 = .ok (.iconst 0, 1) := by decide +kernel
theorem dX12_soonest_57 : decode cX12_soonest 57 = .ok (.istore 4, 2) := by decide +kernel
theorem dX12_soonest_59 : decode cX12_soonest 59 = .ok (.aload_n 0, 1) := by decide +kernel
theorem dX12_soonest_60 : decode cX12_soonest 60 = .ok (.iload_n 2, 1) := by decide +kernel
theorem dX12_soonest_61 : decode cX12_soonest 61 = .ok (.iload 4, 2) := by decide +kernel
theorem dX12_soonest_63 : decode cX12_soonest 63 = .ok (.invokevirtual 221, 3) := by decide +kernel
theorem dX12_soonest_66 : decode cX12_soonest 66 = .ok (.iconst 1, 1) := by decide +kernel
theorem dX12_soonest_67 : decode cX12_soonest 67 = .ok (.iadd, 1) := by decide +kernel
theorem dX12_soonest_68 : decode cX12_soonest 68 = .ok (.iload_n 3, 1) := by decide +kernel
theorem dX12_soonest_69 : decode cX12_soonest 69 = .ok (.iload 5, 2) := by decide +kernel
theorem dX12_soonest_71 : decode cX12_soonest 71 = .ok (.isub, 1) := by decide +kernel
theorem dX12_soonest_72 : decode cX12_soonest 72 = .ok (.if_icmp .eq 9, 3) := by decide +kernel
theorem dX12_soonest_75 : decode cX12_soonest 75 = .ok (.iinc 4 1, 3) := by decide +kernel
theorem dX12_soonest_78 : decode cX12_soonest 78 = .ok (.goto (-19), 3) := by decide +kernel
theorem dX12_soonest_81 : decode cX12_soonest 81 = .ok (.iload 5, 2) := by decide +kernel
theorem dX12_soonest_83 : decode cX12_soonest 83 = .ok (.iload_n 1, 1) := by decide +kernel
theorem dX12_soonest_84 : decode cX12_soonest 84 = .ok (.if_icmp .ge 17, 3) := by decide +kernel
theorem dX12_soonest_87 : decode cX12_soonest 87 = .ok (.aload_n 0, 1) := by decide +kernel
theorem dX12_soonest_88 : decode cX12_soonest 88 = .ok (.getfield 65, 3) := by decide +kernel
theorem dX12_soonest_91 : decode cX12_soonest 91 = .ok (.iconst 5, 1) := by decide +kernel
theorem dX12_soonest_92 : decode cX12_soonest 92 = .ok (.iload_n 2, 1) := by decide +kernel
theorem dX12_soonest_93 : decode cX12_soonest 93 = .ok (.imul, 1) := by decide +kernel
theorem dX12_soonest_94 : decode cX12_soonest 94 = .ok (.iload 4, 2) := by decide +kernel
theorem dX12_soonest_96 : decode cX12_soonest 96 = .ok (.iadd, 1) := by decide +kernel
theorem dX12_soonest_97 : decode cX12_soonest 97 = .ok (.iaload, 1) := by decide +kernel
theorem dX12_soonest_98 : decode cX12_soonest 98 = .ok (.goto 4, 3) := by decide +kernel
theorem dX12_soonest_101 : decode cX12_soonest 101 = .ok (.iload_n 2, 1) := by decide +kernel
theorem dX12_soonest_102 : decode cX12_soonest 102 = .ok (.istore_n 2, 1) := by decide +kernel
theorem dX12_soonest_103 : decode cX12_soonest 103 = .ok (.iinc 5 1, 3) := by decide +kernel
theorem dX12_soonest_106 : decode cX12_soonest 106 = .ok (.goto (-56), 3) := by decide +kernel
theorem dX12_soonest_109 : decode cX12_soonest 109 = .ok (.iload 4, 2) := by decide +kernel
theorem dX12_soonest_111 : decode cX12_soonest 111 = .ok (.ireturn, 1) := by decide +kernel
theorem dX12_common_0 : decode cX12_common 0 = .ok (.lload_n 0, 1) := by decide +kernel
theorem dX12_common_1 : decode cX12_common 1 = .ok (.lstore 4, 2) := by decide +kernel
theorem dX12_common_3 : decode cX12_common 3 = .ok (.lload_n 2, 1) := by decide +kernel
theorem dX12_common_4 : decode cX12_common 4 = .ok (.lstore 6, 2) := by decide +kernel
theorem dX12_common_6 : decode cX12_common 6 = .ok (.lload 6, 2) := by decide +kernel
theorem dX12_common_8 : decode cX12_common 8 = .ok (.lconst 0, 1) := by decide +kernel
theorem dX12_common_9 : decode cX12_common 9 = .ok (.lcmp, 1) := by decide +kernel
theorem dX12_common_10 : decode cX12_common 10 = .ok (.ifCond .eq 21, 3) := by decide +kernel
theorem dX12_common_13 : decode cX12_common 13 = .ok (.lload 4, 2) := by decide +kernel
theorem dX12_common_15 : decode cX12_common 15 = .ok (.lload 6, 2) := by decide +kernel
theorem dX12_common_17 : decode cX12_common 17 = .ok (.lrem, 1) := by decide +kernel
theorem dX12_common_18 : decode cX12_common 18 = .ok (.lstore 8, 2) := by decide +kernel
theorem dX12_common_20 : decode cX12_common 20 = .ok (.lload 6, 2) := by decide +kernel
theorem dX12_common_22 : decode cX12_common 22 = .ok (.lstore 4, 2) := by decide +kernel
theorem dX12_common_24 : decode cX12_common 24 = .ok (.lload 8, 2) := by decide +kernel
theorem dX12_common_26 : decode cX12_common 26 = .ok (.lstore 6, 2) := by decide +kernel
theorem dX12_common_28 : decode cX12_common 28 = .ok (.goto (-22), 3) := by decide +kernel
theorem dX12_common_31 : decode cX12_common 31 = .ok (.lload 4, 2) := by decide +kernel
theorem dX12_common_33 : decode cX12_common 33 = .ok (.lreturn, 1) := by decide +kernel
theorem dX12_odds_0 : decode cX12_odds 0 = .ok (.iload_n 1, 1) := by decide +kernel
theorem dX12_odds_1 : decode cX12_odds 1 = .ok (.iconst 0, 1) := by decide +kernel
theorem dX12_odds_2 : decode cX12_odds 2 = .ok (.bipush 8, 2) := by decide +kernel
theorem dX12_odds_4 : decode cX12_odds 4 = .ok (.invokestatic 87, 3) := by decide +kernel
theorem dX12_odds_7 : decode cX12_odds 7 = .ok (.ifCond .eq 12, 3) := by decide +kernel
theorem dX12_odds_10 : decode cX12_odds 10 = .ok (.iload_n 2, 1) := by decide +kernel
theorem dX12_odds_11 : decode cX12_odds 11 = .ok (.iconst 0, 1) := by decide +kernel
theorem dX12_odds_12 : decode cX12_odds 12 = .ok (.iconst 1, 1) := by decide +kernel
theorem dX12_odds_13 : decode cX12_odds 13 = .ok (.invokestatic 87, 3) := by decide +kernel
theorem dX12_odds_16 : decode cX12_odds 16 = .ok (.ifCond .ne 5, 3) := by decide +kernel
theorem dX12_odds_19 : decode cX12_odds 19 = .ok (.iconst (-1), 1) := by decide +kernel
theorem dX12_odds_20 : decode cX12_odds 20 = .ok (.ireturn, 1) := by decide +kernel
theorem dX12_odds_21 : decode cX12_odds 21 = .ok (.aload_n 0, 1) := by decide +kernel
theorem dX12_odds_22 : decode cX12_odds 22 = .ok (.invokevirtual 224, 3) := by decide +kernel
theorem dX12_odds_25 : decode cX12_odds 25 = .ok (.istore_n 3, 1) := by decide +kernel
theorem dX12_odds_26 : decode cX12_odds 26 = .ok (.lconst 1, 1) := by decide +kernel
theorem dX12_odds_27 : decode cX12_odds 27 = .ok (.lstore 4, 2) := by decide +kernel
theorem dX12_odds_29 : decode cX12_odds 29 = .ok (.iconst 0, 1) := by decide +kernel
theorem dX12_odds_30 : decode cX12_odds 30 = .ok (.istore 6, 2) := by decide +kernel
theorem dX12_odds_32 : decode cX12_odds 32 = .ok (.iload 6, 2) := by decide +kernel
theorem dX12_odds_34 : decode cX12_odds 34 = .ok (.aload_n 0, 1) := by decide +kernel
theorem dX12_odds_35 : decode cX12_odds 35 = .ok (.getfield 200, 3) := by decide +kernel
theorem dX12_odds_38 : decode cX12_odds 38 = .ok (.if_icmp .ge 17, 3) := by decide +kernel
theorem dX12_odds_41 : decode cX12_odds 41 = .ok (.aload_n 0, 1) := by decide +kernel
theorem dX12_odds_42 : decode cX12_odds 42 = .ok (.getfield 71, 3) := by decide +kernel
theorem dX12_odds_45 : decode cX12_odds 45 = .ok (.iload 6, 2) := by decide +kernel
theorem dX12_odds_47 : decode cX12_odds 47 = .ok (.lconst 0, 1) := by decide +kernel
theorem dX12_odds_48 : decode cX12_odds 48 = .ok (.lastore, 1) := by decide +kernel
theorem dX12_odds_49 : decode cX12_odds 49 = .ok (.iinc 6 1, 3) := by decide +kernel
theorem dX12_odds_52 : decode cX12_odds 52 = .ok (.goto (-20), 3) := by decide +kernel
theorem dX12_odds_55 : decode cX12_odds 55 = .ok (.iconst 0, 1) := by decide +kernel
theorem dX12_odds_56 : decode cX12_odds 56 = .ok (.istore 6, 2) := by decide +kernel
theorem dX12_odds_58 : decode cX12_odds 58 = .ok (.iload 6, 2) := by decide +kernel
theorem dX12_odds_60 : decode cX12_odds 60 = .ok (.iload_n 1, 1) := by decide +kernel
theorem dX12_odds_61 : decode cX12_odds 61 = .ok (.if_icmp .ge 144, 3) := by decide +kernel
theorem dX12_odds_64 : decode cX12_odds 64 = .ok (.iconst 0, 1) := by decide +kernel
theorem dX12_odds_65 : decode cX12_odds 65 = .ok (.istore 7, 2) := by decide +kernel
theorem dX12_odds_67 : decode cX12_odds 67 = .ok (.iload 7, 2) := by decide +kernel
theorem dX12_odds_69 : decode cX12_odds 69 = .ok (.aload_n 0, 1) := by decide +kernel
theorem dX12_odds_70 : decode cX12_odds 70 = .ok (.getfield 200, 3) := by decide +kernel
theorem dX12_odds_73 : decode cX12_odds 73 = .ok (.if_icmp .ge 86, 3) := by decide +kernel
theorem dX12_odds_76 : decode cX12_odds 76 = .ok (.lconst 0, 1) := by decide +kernel
theorem dX12_odds_77 : decode cX12_odds 77 = .ok (.lstore 8, 2) := by decide +kernel
theorem dX12_odds_79 : decode cX12_odds 79 = .ok (.iconst 0, 1) := by decide +kernel
theorem dX12_odds_80 : decode cX12_odds 80 = .ok (.istore 10, 2) := by decide +kernel
theorem dX12_odds_82 : decode cX12_odds 82 = .ok (.iload 10, 2) := by decide +kernel
theorem dX12_odds_84 : decode cX12_odds 84 = .ok (.iconst 5, 1) := by decide +kernel
theorem dX12_odds_85 : decode cX12_odds 85 = .ok (.if_icmp .ge 59, 3) := by decide +kernel
theorem dX12_odds_88 : decode cX12_odds 88 = .ok (.aload_n 0, 1) := by decide +kernel
theorem dX12_odds_89 : decode cX12_odds 89 = .ok (.getfield 65, 3) := by decide +kernel
theorem dX12_odds_92 : decode cX12_odds 92 = .ok (.iconst 5, 1) := by decide +kernel
theorem dX12_odds_93 : decode cX12_odds 93 = .ok (.iload 7, 2) := by decide +kernel
theorem dX12_odds_95 : decode cX12_odds 95 = .ok (.imul, 1) := by decide +kernel
theorem dX12_odds_96 : decode cX12_odds 96 = .ok (.iload 10, 2) := by decide +kernel
theorem dX12_odds_98 : decode cX12_odds 98 = .ok (.iadd, 1) := by decide +kernel
theorem dX12_odds_99 : decode cX12_odds 99 = .ok (.iaload, 1) := by decide +kernel
theorem dX12_odds_100 : decode cX12_odds 100 = .ok (.istore 11, 2) := by decide +kernel
theorem dX12_odds_102 : decode cX12_odds 102 = .ok (.lload 8, 2) := by decide +kernel
theorem dX12_odds_104 : decode cX12_odds 104 = .ok (.aload_n 0, 1) := by decide +kernel
theorem dX12_odds_105 : decode cX12_odds 105 = .ok (.getfield 7, 3) := by decide +kernel
theorem dX12_odds_108 : decode cX12_odds 108 = .ok (.bipush 10, 2) := by decide +kernel
theorem dX12_odds_110 : decode cX12_odds 110 = .ok (.iload 10, 2) := by decide +kernel
theorem dX12_odds_112 : decode cX12_odds 112 = .ok (.iadd, 1) := by decide +kernel
theorem dX12_odds_113 : decode cX12_odds 113 = .ok (.iaload, 1) := by decide +kernel
theorem dX12_odds_114 : decode cX12_odds 114 = .ok (.i2l, 1) := by decide +kernel
theorem dX12_odds_115 : decode cX12_odds 115 = .ok (.iload 11, 2) := by decide +kernel
theorem dX12_odds_117 : decode cX12_odds 117 = .ok (.bipush (-5), 2) := by decide +kernel
theorem dX12_odds_119 : decode cX12_odds 119 = .ok (.if_icmp .ne 8, 3) := by decide +kernel
theorem dX12_odds_122 : decode cX12_odds 122 = .ok (.lload 4, 2) := by decide +kernel
theorem dX12_odds_124 : decode cX12_odds 124 = .ok (.goto 10, 3) := by decide +kernel
theorem dX12_odds_127 : decode cX12_odds 127 = .ok (.aload_n 0, 1) := by decide +kernel
theorem dX12_odds_128 : decode cX12_odds 128 = .ok (.getfield 71, 3) := by decide +kernel
theorem dX12_odds_131 : decode cX12_odds 131 = .ok (.iload 11, 2) := by decide +kernel
theorem dX12_odds_133 : decode cX12_odds 133 = .ok (.laload, 1) := by decide +kernel
theorem dX12_odds_134 : decode cX12_odds 134 = .ok (.lmul, 1) := by decide +kernel
theorem dX12_odds_135 : decode cX12_odds 135 = .ok (.ladd, 1) := by decide +kernel
theorem dX12_odds_136 : decode cX12_odds 136 = .ok (.lstore 8, 2) := by decide +kernel
theorem dX12_odds_138 : decode cX12_odds 138 = .ok (.iinc 10 1, 3) := by decide +kernel
theorem dX12_odds_141 : decode cX12_odds 141 = .ok (.goto (-59), 3) := by decide +kernel
theorem dX12_odds_144 : decode cX12_odds 144 = .ok (.aload_n 0, 1) := by decide +kernel
theorem dX12_odds_145 : decode cX12_odds 145 = .ok (.getfield 75, 3) := by decide +kernel
theorem dX12_odds_148 : decode cX12_odds 148 = .ok (.iload 7, 2) := by decide +kernel
theorem dX12_odds_150 : decode cX12_odds 150 = .ok (.lload 8, 2) := by decide +kernel
theorem dX12_odds_152 : decode cX12_odds 152 = .ok (.lastore, 1) := by decide +kernel
theorem dX12_odds_153 : decode cX12_odds 153 = .ok (.iinc 7 1, 3) := by decide +kernel
theorem dX12_odds_156 : decode cX12_odds 156 = .ok (.goto (-89), 3) := by decide +kernel
theorem dX12_odds_159 : decode cX12_odds 159 = .ok (.iconst 0, 1) := by decide +kernel
theorem dX12_odds_160 : decode cX12_odds 160 = .ok (.istore 7, 2) := by decide +kernel
theorem dX12_odds_162 : decode cX12_odds 162 = .ok (.iload 7, 2) := by decide +kernel
theorem dX12_odds_164 : decode cX12_odds 164 = .ok (.aload_n 0, 1) := by decide +kernel
theorem dX12_odds_165 : decode cX12_odds 165 = .ok (.getfield 200, 3) := by decide +kernel
theorem dX12_odds_168 : decode cX12_odds 168 = .ok (.if_icmp .ge 23, 3) := by decide +kernel
theorem dX12_odds_171 : decode cX12_odds 171 = .ok (.aload_n 0, 1) := by decide +kernel
theorem dX12_odds_172 : decode cX12_odds 172 = .ok (.getfield 71, 3) := by decide +kernel
theorem dX12_odds_175 : decode cX12_odds 175 = .ok (.iload 7, 2) := by decide +kernel
theorem dX12_odds_177 : decode cX12_odds 177 = .ok (.aload_n 0, 1) := by decide +kernel
theorem dX12_odds_178 : decode cX12_odds 178 = .ok (.getfield 75, 3) := by decide +kernel
theorem dX12_odds_181 : decode cX12_odds 181 = .ok (.iload 7, 2) := by decide +kernel
theorem dX12_odds_183 : decode cX12_odds 183 = .ok (.laload, 1) := by decide +kernel
theorem dX12_odds_184 : decode cX12_odds 184 = .ok (.lastore, 1) := by decide +kernel
theorem dX12_odds_185 : decode cX12_odds 185 = .ok (.iinc 7 1, 3) := by decide +kernel
theorem dX12_odds_188 : decode cX12_odds 188 = .ok (.goto (-26), 3) := by decide +kernel
theorem dX12_odds_191 : decode cX12_odds 191 = .ok (.lload 4, 2) := by decide +kernel
theorem dX12_odds_193 : decode cX12_odds 193 = .ok (.ldc2_w 230, 3) := by decide +kernel
theorem dX12_odds_196 : decode cX12_odds 196 = .ok (.lmul, 1) := by decide +kernel
theorem dX12_odds_197 : decode cX12_odds 197 = .ok (.lstore 4, 2) := by decide +kernel
theorem dX12_odds_199 : decode cX12_odds 199 = .ok (.iinc 6 1, 3) := by decide +kernel
theorem dX12_odds_202 : decode cX12_odds 202 = .ok (.goto (-144), 3) := by decide +kernel
theorem dX12_odds_205 : decode cX12_odds 205 = .ok (.lload 4, 2) := by decide +kernel
theorem dX12_odds_207 : decode cX12_odds 207 = .ok (.aload_n 0, 1) := by decide +kernel
theorem dX12_odds_208 : decode cX12_odds 208 = .ok (.getfield 71, 3) := by decide +kernel
theorem dX12_odds_211 : decode cX12_odds 211 = .ok (.iload_n 3, 1) := by decide +kernel
theorem dX12_odds_212 : decode cX12_odds 212 = .ok (.laload, 1) := by decide +kernel
theorem dX12_odds_213 : decode cX12_odds 213 = .ok (.invokestatic 232, 3) := by decide +kernel
theorem dX12_odds_216 : decode cX12_odds 216 = .ok (.lstore 6, 2) := by decide +kernel
theorem dX12_odds_218 : decode cX12_odds 218 = .ok (.iload_n 2, 1) := by decide +kernel
theorem dX12_odds_219 : decode cX12_odds 219 = .ok (.ifCond .ne 15, 3) := by decide +kernel
theorem dX12_odds_222 : decode cX12_odds 222 = .ok (.aload_n 0, 1) := by decide +kernel
theorem dX12_odds_223 : decode cX12_odds 223 = .ok (.getfield 71, 3) := by decide +kernel
theorem dX12_odds_226 : decode cX12_odds 226 = .ok (.iload_n 3, 1) := by decide +kernel
theorem dX12_odds_227 : decode cX12_odds 227 = .ok (.laload, 1) := by decide +kernel
theorem dX12_odds_228 : decode cX12_odds 228 = .ok (.lload 6, 2) := by decide +kernel
theorem dX12_odds_230 : decode cX12_odds 230 = .ok (.ldiv, 1) := by decide +kernel
theorem dX12_odds_231 : decode cX12_odds 231 = .ok (.goto 8, 3) := by decide +kernel
theorem dX12_odds_234 : decode cX12_odds 234 = .ok (.lload 4, 2) := by decide +kernel
theorem dX12_odds_236 : decode cX12_odds 236 = .ok (.lload 6, 2) := by decide +kernel
theorem dX12_odds_238 : decode cX12_odds 238 = .ok (.ldiv, 1) := by decide +kernel
theorem dX12_odds_239 : decode cX12_odds 239 = .ok (.l2i, 1) := by decide +kernel
theorem dX12_odds_240 : decode cX12_odds 240 = .ok (.ireturn, 1) := by decide +kernel
theorem dX12_inverse_0 : decode cX12_inverse 0 = .ok (.lload_n 0, 1) := by decide +kernel
theorem dX12_inverse_1 : decode cX12_inverse 1 = .ok (.lstore_n 2, 1) := by decide +kernel
theorem dX12_inverse_2 : decode cX12_inverse 2 = .ok (.lconst 1, 1) := by decide +kernel
theorem dX12_inverse_3 : decode cX12_inverse 3 = .ok (.lstore 4, 2) := by decide +kernel
theorem dX12_inverse_5 : decode cX12_inverse 5 = .ok (.ldc 236, 2) := by decide +kernel
theorem dX12_inverse_7 : decode cX12_inverse 7 = .ok (.istore 6, 2) := by decide +kernel
theorem dX12_inverse_9 : decode cX12_inverse 9 = .ok (.iload 6, 2) := by decide +kernel
theorem dX12_inverse_11 : decode cX12_inverse 11 = .ok (.ifCond .le 43, 3) := by decide +kernel
theorem dX12_inverse_14 : decode cX12_inverse 14 = .ok (.iload 6, 2) := by decide +kernel
theorem dX12_inverse_16 : decode cX12_inverse 16 = .ok (.iconst 2, 1) := by decide +kernel
theorem dX12_inverse_17 : decode cX12_inverse 17 = .ok (.irem, 1) := by decide +kernel
theorem dX12_inverse_18 : decode cX12_inverse 18 = .ok (.iconst 1, 1) := by decide +kernel
theorem dX12_inverse_19 : decode cX12_inverse 19 = .ok (.if_icmp .ne 14, 3) := by decide +kernel
theorem dX12_inverse_22 : decode cX12_inverse 22 = .ok (.lload 4, 2) := by decide +kernel
theorem dX12_inverse_24 : decode cX12_inverse 24 = .ok (.lload_n 2, 1) := by decide +kernel
theorem dX12_inverse_25 : decode cX12_inverse 25 = .ok (.lmul, 1) := by decide +kernel
theorem dX12_inverse_26 : decode cX12_inverse 26 = .ok (.ldc2_w 237, 3) := by decide +kernel
theorem dX12_inverse_29 : decode cX12_inverse 29 = .ok (.lrem, 1) := by decide +kernel
theorem dX12_inverse_30 : decode cX12_inverse 30 = .ok (.goto 5, 3) := by decide +kernel
theorem dX12_inverse_33 : decode cX12_inverse 33 = .ok (.lload 4, 2) := by decide +kernel
theorem dX12_inverse_35 : decode cX12_inverse 35 = .ok (.lstore 4, 2) := by decide +kernel
theorem dX12_inverse_37 : decode cX12_inverse 37 = .ok (.lload_n 2, 1) := by decide +kernel
theorem dX12_inverse_38 : decode cX12_inverse 38 = .ok (.lload_n 2, 1) := by decide +kernel
theorem dX12_inverse_39 : decode cX12_inverse 39 = .ok (.lmul, 1) := by decide +kernel
theorem dX12_inverse_40 : decode cX12_inverse 40 = .ok (.ldc2_w 237, 3) := by decide +kernel
theorem dX12_inverse_43 : decode cX12_inverse 43 = .ok (.lrem, 1) := by decide +kernel
theorem dX12_inverse_44 : decode cX12_inverse 44 = .ok (.lstore_n 2, 1) := by decide +kernel
theorem dX12_inverse_45 : decode cX12_inverse 45 = .ok (.iload 6, 2) := by decide +kernel
theorem dX12_inverse_47 : decode cX12_inverse 47 = .ok (.iconst 2, 1) := by decide +kernel
theorem dX12_inverse_48 : decode cX12_inverse 48 = .ok (.idiv, 1) := by decide +kernel
theorem dX12_inverse_49 : decode cX12_inverse 49 = .ok (.istore 6, 2) := by decide +kernel
theorem dX12_inverse_51 : decode cX12_inverse 51 = .ok (.goto (-42), 3) := by decide +kernel
theorem dX12_inverse_54 : decode cX12_inverse 54 = .ok (.lload 4, 2) := by decide +kernel
theorem dX12_inverse_56 : decode cX12_inverse 56 = .ok (.lreturn, 1) := by decide +kernel
theorem dX12_layTable_0 : decode cX12_layTable 0 = .ok (.iconst 0, 1) := by decide +kernel
theorem dX12_layTable_1 : decode cX12_layTable 1 = .ok (.istore_n 1, 1) := by decide +kernel
theorem dX12_layTable_2 : decode cX12_layTable 2 = .ok (.iload_n 1, 1) := by decide +kernel
theorem dX12_layTable_3 : decode cX12_layTable 3 = .ok (.aload_n 0, 1) := by decide +kernel
theorem dX12_layTable_4 : decode cX12_layTable 4 = .ok (.getfield 200, 3) := by decide +kernel
theorem dX12_layTable_7 : decode cX12_layTable 7 = .ok (.if_icmp .ge 129, 3) := by decide +kernel
theorem dX12_layTable_10 : decode cX12_layTable 10 = .ok (.iconst 0, 1) := by decide +kernel
theorem dX12_layTable_11 : decode cX12_layTable 11 = .ok (.istore_n 2, 1) := by decide +kernel
theorem dX12_layTable_12 : decode cX12_layTable 12 = .ok (.iload_n 2, 1) := by decide +kernel
theorem dX12_layTable_13 : decode cX12_layTable 13 = .ok (.bipush 65, 2) := by decide +kernel
theorem dX12_layTable_15 : decode cX12_layTable 15 = .ok (.if_icmp .ge 44, 3) := by decide +kernel
theorem dX12_layTable_18 : decode cX12_layTable 18 = .ok (.aload_n 0, 1) := by decide +kernel
theorem dX12_layTable_19 : decode cX12_layTable 19 = .ok (.getfield 78, 3) := by decide +kernel
theorem dX12_layTable_22 : decode cX12_layTable 22 = .ok (.bipush 65, 2) := by decide +kernel
theorem dX12_layTable_24 : decode cX12_layTable 24 = .ok (.iload_n 1, 1) := by decide +kernel
theorem dX12_layTable_25 : decode cX12_layTable 25 = .ok (.imul, 1) := by decide +kernel
theorem dX12_layTable_26 : decode cX12_layTable 26 = .ok (.iload_n 2, 1) := by decide +kernel
theorem dX12_layTable_27 : decode cX12_layTable 27 = .ok (.iadd, 1) := by decide +kernel
theorem dX12_layTable_28 : decode cX12_layTable 28 = .ok (.iload_n 2, 1) := by decide +kernel
theorem dX12_layTable_29 : decode cX12_layTable 29 = .ok (.bipush 64, 2) := by decide +kernel
theorem dX12_layTable_31 : decode cX12_layTable 31 = .ok (.if_icmp .ne 9, 3) := by decide +kernel
theorem dX12_layTable_34 : decode cX12_layTable 34 = .ok (.ldc2_w 230, 3) := by decide +kernel
theorem dX12_layTable_37 : decode cX12_layTable 37 = .ok (.goto 15, 3) := by decide +kernel
theorem dX12_layTable_40 : decode cX12_layTable 40 = .ok (.iload_n 2, 1) := by decide +kernel
theorem dX12_layTable_41 : decode cX12_layTable 41 = .ok (.iload_n 1, 1) := by decide +kernel
theorem dX12_layTable_42 : decode cX12_layTable 42 = .ok (.if_icmp .ne 9, 3) := by decide +kernel
theorem dX12_layTable_45 : decode cX12_layTable 45 = .ok (.ldc2_w 230, 3) := by decide +kernel
theorem dX12_layTable_48 : decode cX12_layTable 48 = .ok (.goto 4, 3) := by decide +kernel
theorem dX12_layTable_51 : decode cX12_layTable 51 = .ok (.lconst 0, 1) := by decide +kernel
theorem dX12_layTable_52 : decode cX12_layTable 52 = .ok (.lastore, 1) := by decide +kernel
theorem dX12_layTable_53 : decode cX12_layTable 53 = .ok (.iinc 2 1, 3) := by decide +kernel
theorem dX12_layTable_56 : decode cX12_layTable 56 = .ok (.goto (-44), 3) := by decide +kernel
theorem dX12_layTable_59 : decode cX12_layTable 59 = .ok (.iconst 0, 1) := by decide +kernel
theorem dX12_layTable_60 : decode cX12_layTable 60 = .ok (.istore_n 2, 1) := by decide +kernel
theorem dX12_layTable_61 : decode cX12_layTable 61 = .ok (.iload_n 2, 1) := by decide +kernel
theorem dX12_layTable_62 : decode cX12_layTable 62 = .ok (.iconst 5, 1) := by decide +kernel
theorem dX12_layTable_63 : decode cX12_layTable 63 = .ok (.if_icmp .ge 67, 3) := by decide +kernel
theorem dX12_layTable_66 : decode cX12_layTable 66 = .ok (.aload_n 0, 1) := by decide +kernel
theorem dX12_layTable_67 : decode cX12_layTable 67 = .ok (.getfield 65, 3) := by decide +kernel
theorem dX12_layTable_70 : decode cX12_layTable 70 = .ok (.iconst 5, 1) := by decide +kernel
theorem dX12_layTable_71 : decode cX12_layTable 71 = .ok (.iload_n 1, 1) := by decide +kernel
theorem dX12_layTable_72 : decode cX12_layTable 72 = .ok (.imul, 1) := by decide +kernel
theorem dX12_layTable_73 : decode cX12_layTable 73 = .ok (.iload_n 2, 1) := by decide +kernel
theorem dX12_layTable_74 : decode cX12_layTable 74 = .ok (.iadd, 1) := by decide +kernel
theorem dX12_layTable_75 : decode cX12_layTable 75 = .ok (.iaload, 1) := by decide +kernel
theorem dX12_layTable_76 : decode cX12_layTable 76 = .ok (.istore_n 3, 1) := by decide +kernel
theorem dX12_layTable_77 : decode cX12_layTable 77 = .ok (.iload_n 3, 1) := by decide +kernel
theorem dX12_layTable_78 : decode cX12_layTable 78 = .ok (.bipush (-5), 2) := by decide +kernel
theorem dX12_layTable_80 : decode cX12_layTable 80 = .ok (.if_icmp .eq 44, 3) := by decide +kernel
theorem dX12_layTable_83 : decode cX12_layTable 83 = .ok (.aload_n 0, 1) := by decide +kernel
theorem dX12_layTable_84 : decode cX12_layTable 84 = .ok (.getfield 78, 3) := by decide +kernel
theorem dX12_layTable_87 : decode cX12_layTable 87 = .ok (.bipush 65, 2) := by decide +kernel
theorem dX12_layTable_89 : decode cX12_layTable 89 = .ok (.iload_n 1, 1) := by decide +kernel
theorem dX12_layTable_90 : decode cX12_layTable 90 = .ok (.imul, 1) := by decide +kernel
theorem dX12_layTable_91 : decode cX12_layTable 91 = .ok (.iload_n 3, 1) := by decide +kernel
theorem dX12_layTable_92 : decode cX12_layTable 92 = .ok (.iadd, 1) := by decide +kernel
theorem dX12_layTable_93 : decode cX12_layTable 93 = .ok (.aload_n 0, 1) := by decide +kernel
theorem dX12_layTable_94 : decode cX12_layTable 94 = .ok (.getfield 78, 3) := by decide +kernel
theorem dX12_layTable_97 : decode cX12_layTable 97 = .ok (.bipush 65, 2) := by decide +kernel
theorem dX12_layTable_99 : decode cX12_layTable 99 = .ok (.iload_n 1, 1) := by decide +kernel
theorem dX12_layTable_100 : decode cX12_layTable 100 = .ok (.imul, 1) := by decide +kernel
theorem dX12_layTable_101 : decode cX12_layTable 101 = .ok (.iload_n 3, 1) := by decide +kernel
theorem dX12_layTable_102 : decode cX12_layTable 102 = .ok (.iadd, 1) := by decide +kernel
theorem dX12_layTable_103 : decode cX12_layTable 103 = .ok (.laload, 1) := by decide +kernel
theorem dX12_layTable_104 : decode cX12_layTable 104 = .ok (.ldc2_w 237, 3) := by decide +kernel
theorem dX12_layTable_107 : decode cX12_layTable 107 = .ok (.ladd, 1) := by decide +kernel
theorem dX12_layTable_108 : decode cX12_layTable 108 = .ok (.aload_n 0, 1) := by decide +kernel
theorem dX12_layTable_109 : decode cX12_layTable 109 = .ok (.getfield 7, 3) := by decide +kernel
theorem dX12_layTable_112 : decode cX12_layTable 112 = .ok (.bipush 10, 2) := by decide +kernel
theorem dX12_layTable_114 : decode cX12_layTable 114 = .ok (.iload_n 2, 1) := by decide +kernel
theorem dX12_layTable_115 : decode cX12_layTable 115 = .ok (.iadd, 1) := by decide +kernel
theorem dX12_layTable_116 : decode cX12_layTable 116 = .ok (.iaload, 1) := by decide +kernel
theorem dX12_layTable_117 : decode cX12_layTable 117 = .ok (.i2l, 1) := by decide +kernel
theorem dX12_layTable_118 : decode cX12_layTable 118 = .ok (.lsub, 1) := by decide +kernel
theorem dX12_layTable_119 : decode cX12_layTable 119 = .ok (.ldc2_w 237, 3) := by decide +kernel
theorem dX12_layTable_122 : decode cX12_layTable 122 = .ok (.lrem, 1) := by decide +kernel
theorem dX12_layTable_123 : decode cX12_layTable 123 = .ok (.lastore, 1) := by decide +kernel
theorem dX12_layTable_124 : decode cX12_layTable 124 = .ok (.iinc 2 1, 3) := by decide +kernel
theorem dX12_layTable_127 : decode cX12_layTable 127 = .ok (.goto (-66), 3) := by decide +kernel
theorem dX12_layTable_130 : decode cX12_layTable 130 = .ok (.iinc 1 1, 3) := by decide +kernel
theorem dX12_layTable_133 : decode cX12_layTable 133 = .ok (.goto (-131), 3) := by decide +kernel
theorem dX12_layTable_136 : decode cX12_layTable 136 = .ok (.return_, 1) := by decide +kernel
theorem dX12_change_0 : decode cX12_change 0 = .ok (.iconst 0, 1) := by decide +kernel
theorem dX12_change_1 : decode cX12_change 1 = .ok (.istore_n 3, 1) := by decide +kernel
theorem dX12_change_2 : decode cX12_change 2 = .ok (.iload_n 3, 1) := by decide +kernel
theorem dX12_change_3 : decode cX12_change 3 = .ok (.bipush 65, 2) := by decide +kernel
theorem dX12_change_5 : decode cX12_change 5 = .ok (.if_icmp .ge 62, 3) := by decide +kernel
theorem dX12_change_8 : decode cX12_change 8 = .ok (.iload_n 1, 1) := by decide +kernel
theorem dX12_change_9 : decode cX12_change 9 = .ok (.iload_n 2, 1) := by decide +kernel
theorem dX12_change_10 : decode cX12_change 10 = .ok (.if_icmp .eq 57, 3) := by decide +kernel
theorem dX12_change_13 : decode cX12_change 13 = .ok (.aload_n 0, 1) := by decide +kernel
theorem dX12_change_14 : decode cX12_change 14 = .ok (.getfield 78, 3) := by decide +kernel
theorem dX12_change_17 : decode cX12_change 17 = .ok (.bipush 65, 2) := by decide +kernel
theorem dX12_change_19 : decode cX12_change 19 = .ok (.iload_n 1, 1) := by decide +kernel
theorem dX12_change_20 : decode cX12_change 20 = .ok (.imul, 1) := by decide +kernel
theorem dX12_change_21 : decode cX12_change 21 = .ok (.iload_n 3, 1) := by decide +kernel
theorem dX12_change_22 : decode cX12_change 22 = .ok (.iadd, 1) := by decide +kernel
theorem dX12_change_23 : decode cX12_change 23 = .ok (.laload, 1) := by decide +kernel
theorem dX12_change_24 : decode cX12_change 24 = .ok (.lstore 4, 2) := by decide +kernel
theorem dX12_change_26 : decode cX12_change 26 = .ok (.aload_n 0, 1) := by decide +kernel
theorem dX12_change_27 : decode cX12_change 27 = .ok (.getfield 78, 3) := by decide +kernel
theorem dX12_change_30 : decode cX12_change 30 = .ok (.bipush 65, 2) := by decide +kernel
theorem dX12_change_32 : decode cX12_change 32 = .ok (.iload_n 1, 1) := by decide +kernel
theorem dX12_change_33 : decode cX12_change 33 = .ok (.imul, 1) := by decide +kernel
theorem dX12_change_34 : decode cX12_change 34 = .ok (.iload_n 3, 1) := by decide +kernel
theorem dX12_change_35 : decode cX12_change 35 = .ok (.iadd, 1) := by decide +kernel
theorem dX12_change_36 : decode cX12_change 36 = .ok (.aload_n 0, 1) := by decide +kernel
theorem dX12_change_37 : decode cX12_change 37 = .ok (.getfield 78, 3) := by decide +kernel
theorem dX12_change_40 : decode cX12_change 40 = .ok (.bipush 65, 2) := by decide +kernel
theorem dX12_change_42 : decode cX12_change 42 = .ok (.iload_n 2, 1) := by decide +kernel
theorem dX12_change_43 : decode cX12_change 43 = .ok (.imul, 1) := by decide +kernel
theorem dX12_change_44 : decode cX12_change 44 = .ok (.iload_n 3, 1) := by decide +kernel
theorem dX12_change_45 : decode cX12_change 45 = .ok (.iadd, 1) := by decide +kernel
theorem dX12_change_46 : decode cX12_change 46 = .ok (.laload, 1) := by decide +kernel
theorem dX12_change_47 : decode cX12_change 47 = .ok (.lastore, 1) := by decide +kernel
theorem dX12_change_48 : decode cX12_change 48 = .ok (.aload_n 0, 1) := by decide +kernel
theorem dX12_change_49 : decode cX12_change 49 = .ok (.getfield 78, 3) := by decide +kernel
theorem dX12_change_52 : decode cX12_change 52 = .ok (.bipush 65, 2) := by decide +kernel
theorem dX12_change_54 : decode cX12_change 54 = .ok (.iload_n 2, 1) := by decide +kernel
theorem dX12_change_55 : decode cX12_change 55 = .ok (.imul, 1) := by decide +kernel
theorem dX12_change_56 : decode cX12_change 56 = .ok (.iload_n 3, 1) := by decide +kernel
theorem dX12_change_57 : decode cX12_change 57 = .ok (.iadd, 1) := by decide +kernel
theorem dX12_change_58 : decode cX12_change 58 = .ok (.lload 4, 2) := by decide +kernel
theorem dX12_change_60 : decode cX12_change 60 = .ok (.lastore, 1) := by decide +kernel
theorem dX12_change_61 : decode cX12_change 61 = .ok (.iinc 3 1, 3) := by decide +kernel
theorem dX12_change_64 : decode cX12_change 64 = .ok (.goto (-62), 3) := by decide +kernel
theorem dX12_change_67 : decode cX12_change 67 = .ok (.return_, 1) := by decide +kernel
theorem dX12_solve_0 : decode cX12_solve 0 = .ok (.iconst 0, 1) := by decide +kernel
theorem dX12_solve_1 : decode cX12_solve 1 = .ok (.istore_n 1, 1) := by decide +kernel
theorem dX12_solve_2 : decode cX12_solve 2 = .ok (.iload_n 1, 1) := by decide +kernel
theorem dX12_solve_3 : decode cX12_solve 3 = .ok (.aload_n 0, 1) := by decide +kernel
theorem dX12_solve_4 : decode cX12_solve 4 = .ok (.getfield 200, 3) := by decide +kernel
theorem dX12_solve_7 : decode cX12_solve 7 = .ok (.if_icmp .ge 231, 3) := by decide +kernel
theorem dX12_solve_10 : decode cX12_solve 10 = .ok (.iload_n 1, 1) := by decide +kernel
theorem dX12_solve_11 : decode cX12_solve 11 = .ok (.istore_n 2, 1) := by decide +kernel
theorem dX12_solve_12 : decode cX12_solve 12 = .ok (.iload_n 2, 1) := by decide +kernel
theorem dX12_solve_13 : decode cX12_solve 13 = .ok (.aload_n 0, 1) := by decide +kernel
theorem dX12_solve_14 : decode cX12_solve 14 = .ok (.getfield 200, 3) := by decide +kernel
theorem dX12_solve_17 : decode cX12_solve 17 = .ok (.if_icmp .ge 25, 3) := by decide +kernel
theorem dX12_solve_20 : decode cX12_solve 20 = .ok (.aload_n 0, 1) := by decide +kernel
theorem dX12_solve_21 : decode cX12_solve 21 = .ok (.getfield 78, 3) := by decide +kernel
theorem dX12_solve_24 : decode cX12_solve 24 = .ok (.bipush 65, 2) := by decide +kernel
theorem dX12_solve_26 : decode cX12_solve 26 = .ok (.iload_n 2, 1) := by decide +kernel
theorem dX12_solve_27 : decode cX12_solve 27 = .ok (.imul, 1) := by decide +kernel
theorem dX12_solve_28 : decode cX12_solve 28 = .ok (.iload_n 1, 1) := by decide +kernel
theorem dX12_solve_29 : decode cX12_solve 29 = .ok (.iadd, 1) := by decide +kernel
theorem dX12_solve_30 : decode cX12_solve 30 = .ok (.laload, 1) := by decide +kernel
theorem dX12_solve_31 : decode cX12_solve 31 = .ok (.lconst 0, 1) := by decide +kernel
theorem dX12_solve_32 : decode cX12_solve 32 = .ok (.lcmp, 1) := by decide +kernel
theorem dX12_solve_33 : decode cX12_solve 33 = .ok (.ifCond .ne 9, 3) := by decide +kernel
theorem dX12_solve_36 : decode cX12_solve 36 = .ok (.iinc 2 1, 3) := by decide +kernel
theorem dX12_solve_39 : decode cX12_solve 39 = .ok (.goto (-27), 3) := by decide +kernel
theorem dX12_solve_42 : decode cX12_solve 42 = .ok (.iload_n 2, 1) := by decide +kernel
theorem dX12_solve_43 : decode cX12_solve 43 = .ok (.aload_n 0, 1) := by decide +kernel
theorem dX12_solve_44 : decode cX12_solve 44 = .ok (.getfield 200, 3) := by decide +kernel
theorem dX12_solve_47 : decode cX12_solve 47 = .ok (.if_icmp .ne 5, 3) := by decide +kernel
theorem dX12_solve_50 : decode cX12_solve 50 = .ok (.iconst 0, 1) := by decide +kernel
theorem dX12_solve_51 : decode cX12_solve 51 = .ok (.ireturn, 1) := by decide +kernel
theorem dX12_solve_52 : decode cX12_solve 52 = .ok (.aload_n 0, 1) := by decide +kernel
theorem dX12_solve_53 : decode cX12_solve 53 = .ok (.iload_n 2, 1) := by decide +kernel
theorem dX12_solve_54 : decode cX12_solve 54 = .ok (.iload_n 1, 1) := by decide +kernel
theorem dX12_solve_55 : decode cX12_solve 55 = .ok (.invokevirtual 239, 3) := by decide +kernel
theorem dX12_solve_58 : decode cX12_solve 58 = .ok (.aload_n 0, 1) := by decide +kernel
theorem dX12_solve_59 : decode cX12_solve 59 = .ok (.getfield 78, 3) := by decide +kernel
theorem dX12_solve_62 : decode cX12_solve 62 = .ok (.bipush 66, 2) := by decide +kernel
theorem dX12_solve_64 : decode cX12_solve 64 = .ok (.iload_n 1, 1) := by decide +kernel
theorem dX12_solve_65 : decode cX12_solve 65 = .ok (.imul, 1) := by decide +kernel
theorem dX12_solve_66 : decode cX12_solve 66 = .ok (.laload, 1) := by decide +kernel
theorem dX12_solve_67 : decode cX12_solve 67 = .ok (.invokestatic 243, 3) := by decide +kernel
theorem dX12_solve_70 : decode cX12_solve 70 = .ok (.lstore_n 3, 1) := by decide +kernel
theorem dX12_solve_71 : decode cX12_solve 71 = .ok (.iconst 0, 1) := by decide +kernel
theorem dX12_solve_72 : decode cX12_solve 72 = .ok (.istore 5, 2) := by decide +kernel
theorem dX12_solve_74 : decode cX12_solve 74 = .ok (.iload 5, 2) := by decide +kernel
theorem dX12_solve_76 : decode cX12_solve 76 = .ok (.bipush 65, 2) := by decide +kernel
theorem dX12_solve_78 : decode cX12_solve 78 = .ok (.if_icmp .ge 39, 3) := by decide +kernel
theorem dX12_solve_81 : decode cX12_solve 81 = .ok (.aload_n 0, 1) := by decide +kernel
theorem dX12_solve_82 : decode cX12_solve 82 = .ok (.getfield 78, 3) := by decide +kernel
theorem dX12_solve_85 : decode cX12_solve 85 = .ok (.bipush 65, 2) := by decide +kernel
theorem dX12_solve_87 : decode cX12_solve 87 = .ok (.iload_n 1, 1) := by decide +kernel
theorem dX12_solve_88 : decode cX12_solve 88 = .ok (.imul, 1) := by decide +kernel
theorem dX12_solve_89 : decode cX12_solve 89 = .ok (.iload 5, 2) := by decide +kernel
theorem dX12_solve_91 : decode cX12_solve 91 = .ok (.iadd, 1) := by decide +kernel
theorem dX12_solve_92 : decode cX12_solve 92 = .ok (.aload_n 0, 1) := by decide +kernel
theorem dX12_solve_93 : decode cX12_solve 93 = .ok (.getfield 78, 3) := by decide +kernel
theorem dX12_solve_96 : decode cX12_solve 96 = .ok (.bipush 65, 2) := by decide +kernel
theorem dX12_solve_98 : decode cX12_solve 98 = .ok (.iload_n 1, 1) := by decide +kernel
theorem dX12_solve_99 : decode cX12_solve 99 = .ok (.imul, 1) := by decide +kernel
theorem dX12_solve_100 : decode cX12_solve 100 = .ok (.iload 5, 2) := by decide +kernel
theorem dX12_solve_102 : decode cX12_solve 102 = .ok (.iadd, 1) := by decide +kernel
theorem dX12_solve_103 : decode cX12_solve 103 = .ok (.laload, 1) := by decide +kernel
theorem dX12_solve_104 : decode cX12_solve 104 = .ok (.lload_n 3, 1) := by decide +kernel
theorem dX12_solve_105 : decode cX12_solve 105 = .ok (.lmul, 1) := by decide +kernel
theorem dX12_solve_106 : decode cX12_solve 106 = .ok (.ldc2_w 237, 3) := by decide +kernel
theorem dX12_solve_109 : decode cX12_solve 109 = .ok (.lrem, 1) := by decide +kernel
theorem dX12_solve_110 : decode cX12_solve 110 = .ok (.lastore, 1) := by decide +kernel
theorem dX12_solve_111 : decode cX12_solve 111 = .ok (.iinc 5 1, 3) := by decide +kernel
theorem dX12_solve_114 : decode cX12_solve 114 = .ok (.goto (-40), 3) := by decide +kernel
theorem dX12_solve_117 : decode cX12_solve 117 = .ok (.iconst 0, 1) := by decide +kernel
theorem dX12_solve_118 : decode cX12_solve 118 = .ok (.istore 5, 2) := by decide +kernel
theorem dX12_solve_120 : decode cX12_solve 120 = .ok (.iload 5, 2) := by decide +kernel
theorem dX12_solve_122 : decode cX12_solve 122 = .ok (.aload_n 0, 1) := by decide +kernel
theorem dX12_solve_123 : decode cX12_solve 123 = .ok (.getfield 200, 3) := by decide +kernel
theorem dX12_solve_126 : decode cX12_solve 126 = .ok (.if_icmp .ge 106, 3) := by decide +kernel
theorem dX12_solve_129 : decode cX12_solve 129 = .ok (.iload 5, 2) := by decide +kernel
theorem dX12_solve_131 : decode cX12_solve 131 = .ok (.iload_n 1, 1) := by decide +kernel
theorem dX12_solve_132 : decode cX12_solve 132 = .ok (.if_icmp .ne 7, 3) := by decide +kernel
theorem dX12_solve_135 : decode cX12_solve 135 = .ok (.lconst 0, 1) := by decide +kernel
theorem dX12_solve_136 : decode cX12_solve 136 = .ok (.goto 15, 3) := by decide +kernel
theorem dX12_solve_139 : decode cX12_solve 139 = .ok (.aload_n 0, 1) := by decide +kernel
theorem dX12_solve_140 : decode cX12_solve 140 = .ok (.getfield 78, 3) := by decide +kernel
theorem dX12_solve_143 : decode cX12_solve 143 = .ok (.bipush 65, 2) := by decide +kernel
theorem dX12_solve_145 : decode cX12_solve 145 = .ok (.iload 5, 2) := by decide +kernel
theorem dX12_solve_147 : decode cX12_solve 147 = .ok (.imul, 1) := by decide +kernel
theorem dX12_solve_148 : decode cX12_solve 148 = .ok (.iload_n 1, 1) := by decide +kernel
theorem dX12_solve_149 : decode cX12_solve 149 = .ok (.iadd, 1) := by decide +kernel
theorem dX12_solve_150 : decode cX12_solve 150 = .ok (.laload, 1) := by decide +kernel
theorem dX12_solve_151 : decode cX12_solve 151 = .ok (.lstore 6, 2) := by decide +kernel
theorem dX12_solve_153 : decode cX12_solve 153 = .ok (.iconst 0, 1) := by decide +kernel
theorem dX12_solve_154 : decode cX12_solve 154 = .ok (.istore 8, 2) := by decide +kernel
theorem dX12_solve_156 : decode cX12_solve 156 = .ok (.iload 8, 2) := by decide +kernel
theorem dX12_solve_158 : decode cX12_solve 158 = .ok (.bipush 65, 2) := by decide +kernel
theorem dX12_solve_160 : decode cX12_solve 160 = .ok (.if_icmp .ge 66, 3) := by decide +kernel
theorem dX12_solve_163 : decode cX12_solve 163 = .ok (.lload 6, 2) := by decide +kernel
theorem dX12_solve_165 : decode cX12_solve 165 = .ok (.lconst 0, 1) := by decide +kernel
theorem dX12_solve_166 : decode cX12_solve 166 = .ok (.lcmp, 1) := by decide +kernel
theorem dX12_solve_167 : decode cX12_solve 167 = .ok (.ifCond .eq 59, 3) := by decide +kernel
theorem dX12_solve_170 : decode cX12_solve 170 = .ok (.aload_n 0, 1) := by decide +kernel
theorem dX12_solve_171 : decode cX12_solve 171 = .ok (.getfield 78, 3) := by decide +kernel
theorem dX12_solve_174 : decode cX12_solve 174 = .ok (.bipush 65, 2) := by decide +kernel
theorem dX12_solve_176 : decode cX12_solve 176 = .ok (.iload 5, 2) := by decide +kernel
theorem dX12_solve_178 : decode cX12_solve 178 = .ok (.imul, 1) := by decide +kernel
theorem dX12_solve_179 : decode cX12_solve 179 = .ok (.iload 8, 2) := by decide +kernel
theorem dX12_solve_181 : decode cX12_solve 181 = .ok (.iadd, 1) := by decide +kernel
theorem dX12_solve_182 : decode cX12_solve 182 = .ok (.aload_n 0, 1) := by decide +kernel
theorem dX12_solve_183 : decode cX12_solve 183 = .ok (.getfield 78, 3) := by decide +kernel
theorem dX12_solve_186 : decode cX12_solve 186 = .ok (.bipush 65, 2) := by decide +kernel
theorem dX12_solve_188 : decode cX12_solve 188 = .ok (.iload 5, 2) := by decide +kernel
theorem dX12_solve_190 : decode cX12_solve 190 = .ok (.imul, 1) := by decide +kernel
theorem dX12_solve_191 : decode cX12_solve 191 = .ok (.iload 8, 2) := by decide +kernel
theorem dX12_solve_193 : decode cX12_solve 193 = .ok (.iadd, 1) := by decide +kernel
theorem dX12_solve_194 : decode cX12_solve 194 = .ok (.laload, 1) := by decide +kernel
theorem dX12_solve_195 : decode cX12_solve 195 = .ok (.ldc2_w 237, 3) := by decide +kernel
theorem dX12_solve_198 : decode cX12_solve 198 = .ok (.lload 6, 2) := by decide +kernel
theorem dX12_solve_200 : decode cX12_solve 200 = .ok (.lsub, 1) := by decide +kernel
theorem dX12_solve_201 : decode cX12_solve 201 = .ok (.aload_n 0, 1) := by decide +kernel
theorem dX12_solve_202 : decode cX12_solve 202 = .ok (.getfield 78, 3) := by decide +kernel
theorem dX12_solve_205 : decode cX12_solve 205 = .ok (.bipush 65, 2) := by decide +kernel
theorem dX12_solve_207 : decode cX12_solve 207 = .ok (.iload_n 1, 1) := by decide +kernel
theorem dX12_solve_208 : decode cX12_solve 208 = .ok (.imul, 1) := by decide +kernel
theorem dX12_solve_209 : decode cX12_solve 209 = .ok (.iload 8, 2) := by decide +kernel
theorem dX12_solve_211 : decode cX12_solve 211 = .ok (.iadd, 1) := by decide +kernel
theorem dX12_solve_212 : decode cX12_solve 212 = .ok (.laload, 1) := by decide +kernel
theorem dX12_solve_213 : decode cX12_solve 213 = .ok (.lmul, 1) := by decide +kernel
theorem dX12_solve_214 : decode cX12_solve 214 = .ok (.ladd, 1) := by decide +kernel
theorem dX12_solve_215 : decode cX12_solve 215 = .ok (.ldc2_w 237, 3) := by decide +kernel
theorem dX12_solve_218 : decode cX12_solve 218 = .ok (.lrem, 1) := by decide +kernel
theorem dX12_solve_219 : decode cX12_solve 219 = .ok (.lastore, 1) := by decide +kernel
theorem dX12_solve_220 : decode cX12_solve 220 = .ok (.iinc 8 1, 3) := by decide +kernel
theorem dX12_solve_223 : decode cX12_solve 223 = .ok (.goto (-67), 3) := by decide +kernel
theorem dX12_solve_226 : decode cX12_solve 226 = .ok (.iinc 5 1, 3) := by decide +kernel
theorem dX12_solve_229 : decode cX12_solve 229 = .ok (.goto (-109), 3) := by decide +kernel
theorem dX12_solve_232 : decode cX12_solve 232 = .ok (.iinc 1 1, 3) := by decide +kernel
theorem dX12_solve_235 : decode cX12_solve 235 = .ok (.goto (-233), 3) := by decide +kernel
theorem dX12_solve_238 : decode cX12_solve 238 = .ok (.iconst 1, 1) := by decide +kernel
theorem dX12_solve_239 : decode cX12_solve 239 = .ok (.ireturn, 1) := by decide +kernel
theorem dX12_mean_0 : decode cX12_mean 0 = .ok (.aload_n 0, 1) := by decide +kernel
theorem dX12_mean_1 : decode cX12_mean 1 = .ok (.invokevirtual 224, 3) := by decide +kernel
theorem dX12_mean_4 : decode cX12_mean 4 = .ok (.istore_n 1, 1) := by decide +kernel
theorem dX12_mean_5 : decode cX12_mean 5 = .ok (.aload_n 0, 1) := by decide +kernel
theorem dX12_mean_6 : decode cX12_mean 6 = .ok (.invokevirtual 247, 3) := by decide +kernel
theorem dX12_mean_9 : decode cX12_mean 9 = .ok (.aload_n 0, 1) := by decide +kernel
theorem dX12_mean_10 : decode cX12_mean 10 = .ok (.invokevirtual 250, 3) := by decide +kernel
theorem dX12_mean_13 : decode cX12_mean 13 = .ok (.ifCond .eq 19, 3) := by decide +kernel
theorem dX12_mean_16 : decode cX12_mean 16 = .ok (.aload_n 0, 1) := by decide +kernel
theorem dX12_mean_17 : decode cX12_mean 17 = .ok (.getfield 78, 3) := by decide +kernel
theorem dX12_mean_20 : decode cX12_mean 20 = .ok (.bipush 65, 2) := by decide +kernel
theorem dX12_mean_22 : decode cX12_mean 22 = .ok (.iload_n 1, 1) := by decide +kernel
theorem dX12_mean_23 : decode cX12_mean 23 = .ok (.imul, 1) := by decide +kernel
theorem dX12_mean_24 : decode cX12_mean 24 = .ok (.bipush 64, 2) := by decide +kernel
theorem dX12_mean_26 : decode cX12_mean 26 = .ok (.iadd, 1) := by decide +kernel
theorem dX12_mean_27 : decode cX12_mean 27 = .ok (.laload, 1) := by decide +kernel
theorem dX12_mean_28 : decode cX12_mean 28 = .ok (.l2i, 1) := by decide +kernel
theorem dX12_mean_29 : decode cX12_mean 29 = .ok (.goto 5, 3) := by decide +kernel
theorem dX12_mean_32 : decode cX12_mean 32 = .ok (.bipush (-9), 2) := by decide +kernel
theorem dX12_mean_34 : decode cX12_mean 34 = .ok (.ireturn, 1) := by decide +kernel
theorem dX12_isSame_0 : decode cX12_isSame 0 = .ok (.iconst 0, 1) := by decide +kernel
theorem dX12_isSame_1 : decode cX12_isSame 1 = .ok (.istore 4, 2) := by decide +kernel
theorem dX12_isSame_3 : decode cX12_isSame 3 = .ok (.iconst 1, 1) := by decide +kernel
theorem dX12_isSame_4 : decode cX12_isSame 4 = .ok (.istore 5, 2) := by decide +kernel
theorem dX12_isSame_6 : decode cX12_isSame 6 = .ok (.iconst 0, 1) := by decide +kernel
theorem dX12_isSame_7 : decode cX12_isSame 7 = .ok (.istore 6, 2) := by decide +kernel
theorem dX12_isSame_9 : decode cX12_isSame 9 = .ok (.iload 6, 2) := by decide +kernel
theorem dX12_isSame_11 : decode cX12_isSame 11 = .ok (.aload_n 0, 1) := by decide +kernel
theorem dX12_isSame_12 : decode cX12_isSame 12 = .ok (.getfield 7, 3) := by decide +kernel
theorem dX12_isSame_15 : decode cX12_isSame 15 = .ok (.bipush 17, 2) := by decide +kernel
theorem dX12_isSame_17 : decode cX12_isSame 17 = .ok (.iaload, 1) := by decide +kernel
theorem dX12_isSame_18 : decode cX12_isSame 18 = .ok (.if_icmp .ge 97, 3) := by decide +kernel
theorem dX12_isSame_21 : decode cX12_isSame 21 = .ok (.iload 5, 2) := by decide +kernel
theorem dX12_isSame_23 : decode cX12_isSame 23 = .ok (.ifCond .eq 92, 3) := by decide +kernel
theorem dX12_isSame_26 : decode cX12_isSame 26 = .ok (.iconst 2, 1) := by decide +kernel
theorem dX12_isSame_27 : decode cX12_isSame 27 = .ok (.iload 4, 2) := by decide +kernel
theorem dX12_isSame_29 : decode cX12_isSame 29 = .ok (.imul, 1) := by decide +kernel
theorem dX12_isSame_30 : decode cX12_isSame 30 = .ok (.iload_n 3, 1) := by decide +kernel
theorem dX12_isSame_31 : decode cX12_isSame 31 = .ok (.aload_n 0, 1) := by decide +kernel
theorem dX12_isSame_32 : decode cX12_isSame 32 = .ok (.getfield 7, 3) := by decide +kernel
theorem dX12_isSame_35 : decode cX12_isSame 35 = .ok (.bipush 58, 2) := by decide +kernel
theorem dX12_isSame_37 : decode cX12_isSame 37 = .ok (.iload 6, 2) := by decide +kernel
theorem dX12_isSame_39 : decode cX12_isSame 39 = .ok (.iadd, 1) := by decide +kernel
theorem dX12_isSame_40 : decode cX12_isSame 40 = .ok (.iaload, 1) := by decide +kernel
theorem dX12_isSame_41 : decode cX12_isSame 41 = .ok (.ishr, 1) := by decide +kernel
theorem dX12_isSame_42 : decode cX12_isSame 42 = .ok (.iconst 1, 1) := by decide +kernel
theorem dX12_isSame_43 : decode cX12_isSame 43 = .ok (.iand, 1) := by decide +kernel
theorem dX12_isSame_44 : decode cX12_isSame 44 = .ok (.iadd, 1) := by decide +kernel
theorem dX12_isSame_45 : decode cX12_isSame 45 = .ok (.iconst 1, 1) := by decide +kernel
theorem dX12_isSame_46 : decode cX12_isSame 46 = .ok (.iload_n 2, 1) := by decide +kernel
theorem dX12_isSame_47 : decode cX12_isSame 47 = .ok (.ishl, 1) := by decide +kernel
theorem dX12_isSame_48 : decode cX12_isSame 48 = .ok (.iconst 1, 1) := by decide +kernel
theorem dX12_isSame_49 : decode cX12_isSame 49 = .ok (.isub, 1) := by decide +kernel
theorem dX12_isSame_50 : decode cX12_isSame 50 = .ok (.iand, 1) := by decide +kernel
theorem dX12_isSame_51 : decode cX12_isSame 51 = .ok (.istore 7, 2) := by decide +kernel
theorem dX12_isSame_53 : decode cX12_isSame 53 = .ok (.iload 7, 2) := by decide +kernel
theorem dX12_isSame_55 : decode cX12_isSame 55 = .ok (.invokestatic 175, 3) := by decide +kernel
theorem dX12_isSame_58 : decode cX12_isSame 58 = .ok (.iload_n 1, 1) := by decide +kernel
theorem dX12_isSame_59 : decode cX12_isSame 59 = .ok (.if_icmp .lt 7, 3) := by decide +kernel
theorem dX12_isSame_62 : decode cX12_isSame 62 = .ok (.iconst 1, 1) := by decide +kernel
theorem dX12_isSame_63 : decode cX12_isSame 63 = .ok (.goto 4, 3) := by decide +kernel
theorem dX12_isSame_66 : decode cX12_isSame 66 = .ok (.iconst 0, 1) := by decide +kernel
theorem dX12_isSame_67 : decode cX12_isSame 67 = .ok (.istore 8, 2) := by decide +kernel
theorem dX12_isSame_69 : decode cX12_isSame 69 = .ok (.iload 8, 2) := by decide +kernel
theorem dX12_isSame_71 : decode cX12_isSame 71 = .ok (.aload_n 0, 1) := by decide +kernel
theorem dX12_isSame_72 : decode cX12_isSame 72 = .ok (.getfield 29, 3) := by decide +kernel
theorem dX12_isSame_75 : decode cX12_isSame 75 = .ok (.iload 6, 2) := by decide +kernel
theorem dX12_isSame_77 : decode cX12_isSame 77 = .ok (.iaload, 1) := by decide +kernel
theorem dX12_isSame_78 : decode cX12_isSame 78 = .ok (.ifCond .eq 7, 3) := by decide +kernel
theorem dX12_isSame_81 : decode cX12_isSame 81 = .ok (.iconst 1, 1) := by decide +kernel
theorem dX12_isSame_82 : decode cX12_isSame 82 = .ok (.goto 4, 3) := by decide +kernel
theorem dX12_isSame_85 : decode cX12_isSame 85 = .ok (.iconst 0, 1) := by decide +kernel
theorem dX12_isSame_86 : decode cX12_isSame 86 = .ok (.if_icmp .ne 7, 3) := by decide +kernel
theorem dX12_isSame_89 : decode cX12_isSame 89 = .ok (.iconst 1, 1) := by decide +kernel
theorem dX12_isSame_90 : decode cX12_isSame 90 = .ok (.goto 4, 3) := by decide +kernel
theorem dX12_isSame_93 : decode cX12_isSame 93 = .ok (.iconst 0, 1) := by decide +kernel
theorem dX12_isSame_94 : decode cX12_isSame 94 = .ok (.istore 5, 2) := by decide +kernel
theorem dX12_isSame_96 : decode cX12_isSame 96 = .ok (.iload 8, 2) := by decide +kernel
theorem dX12_isSame_98 : decode cX12_isSame 98 = .ok (.ifCond .eq 7, 3) := by decide +kernel
theorem dX12_isSame_101 : decode cX12_isSame 101 = .ok (.iconst 0, 1) := by decide +kernel
theorem dX12_isSame_102 : decode cX12_isSame 102 = .ok (.goto 5, 3) := by decide +kernel
theorem dX12_isSame_105 : decode cX12_isSame 105 = .ok (.iload 7, 2) := by decide +kernel
theorem dX12_isSame_107 : decode cX12_isSame 107 = .ok (.istore 4, 2) := by decide +kernel
theorem dX12_isSame_109 : decode cX12_isSame 109 = .ok (.iinc 6 1, 3) := by decide +kernel
theorem dX12_isSame_112 : decode cX12_isSame 112 = .ok (.goto (-103), 3) := by decide +kernel
theorem dX12_isSame_115 : decode cX12_isSame 115 = .ok (.iload 5, 2) := by decide +kernel
theorem dX12_isSame_117 : decode cX12_isSame 117 = .ok (.ireturn, 1) := by decide +kernel
theorem dX12_same_0 : decode cX12_same 0 = .ok (.iload_n 1, 1) := by decide +kernel
theorem dX12_same_1 : decode cX12_same 1 = .ok (.iconst 0, 1) := by decide +kernel
theorem dX12_same_2 : decode cX12_same 2 = .ok (.iconst 1, 1) := by decide +kernel
theorem dX12_same_3 : decode cX12_same 3 = .ok (.invokestatic 87, 3) := by decide +kernel
theorem dX12_same_6 : decode cX12_same 6 = .ok (.ifCond .ne 5, 3) := by decide +kernel
theorem dX12_same_9 : decode cX12_same 9 = .ok (.iconst (-1), 1) := by decide +kernel
theorem dX12_same_10 : decode cX12_same 10 = .ok (.ireturn, 1) := by decide +kernel
theorem dX12_same_11 : decode cX12_same 11 = .ok (.aload_n 0, 1) := by decide +kernel
theorem dX12_same_12 : decode cX12_same 12 = .ok (.invokevirtual 212, 3) := by decide +kernel
theorem dX12_same_15 : decode cX12_same 15 = .ok (.iconst 0, 1) := by decide +kernel
theorem dX12_same_16 : decode cX12_same 16 = .ok (.istore_n 2, 1) := by decide +kernel
theorem dX12_same_17 : decode cX12_same 17 = .ok (.bipush (-9), 2) := by decide +kernel
theorem dX12_same_19 : decode cX12_same 19 = .ok (.istore_n 3, 1) := by decide +kernel
theorem dX12_same_20 : decode cX12_same 20 = .ok (.iconst 1, 1) := by decide +kernel
theorem dX12_same_21 : decode cX12_same 21 = .ok (.istore 4, 2) := by decide +kernel
theorem dX12_same_23 : decode cX12_same 23 = .ok (.iload 4, 2) := by decide +kernel
theorem dX12_same_25 : decode cX12_same 25 = .ok (.iconst 4, 1) := by decide +kernel
theorem dX12_same_26 : decode cX12_same 26 = .ok (.if_icmp .gt 97, 3) := by decide +kernel
theorem dX12_same_29 : decode cX12_same 29 = .ok (.iconst 1, 1) := by decide +kernel
theorem dX12_same_30 : decode cX12_same 30 = .ok (.istore 5, 2) := by decide +kernel
theorem dX12_same_32 : decode cX12_same 32 = .ok (.iload 5, 2) := by decide +kernel
theorem dX12_same_34 : decode cX12_same 34 = .ok (.iload 4, 2) := by decide +kernel
theorem dX12_same_36 : decode cX12_same 36 = .ok (.if_icmp .gt 81, 3) := by decide +kernel
theorem dX12_same_39 : decode cX12_same 39 = .ok (.iconst 1, 1) := by decide +kernel
theorem dX12_same_40 : decode cX12_same 40 = .ok (.istore 6, 2) := by decide +kernel
theorem dX12_same_42 : decode cX12_same 42 = .ok (.iload 6, 2) := by decide +kernel
theorem dX12_same_44 : decode cX12_same 44 = .ok (.bipush 32, 2) := by decide +kernel
theorem dX12_same_46 : decode cX12_same 46 = .ok (.if_icmp .ge 65, 3) := by decide +kernel
theorem dX12_same_49 : decode cX12_same 49 = .ok (.aload_n 0, 1) := by decide +kernel
theorem dX12_same_50 : decode cX12_same 50 = .ok (.iload 5, 2) := by decide +kernel
theorem dX12_same_52 : decode cX12_same 52 = .ok (.iload 4, 2) := by decide +kernel
theorem dX12_same_54 : decode cX12_same 54 = .ok (.iload 6, 2) := by decide +kernel
theorem dX12_same_56 : decode cX12_same 56 = .ok (.invokevirtual 253, 3) := by decide +kernel
theorem dX12_same_59 : decode cX12_same 59 = .ok (.istore 7, 2) := by decide +kernel
theorem dX12_same_61 : decode cX12_same 61 = .ok (.iload_n 2, 1) := by decide +kernel
theorem dX12_same_62 : decode cX12_same 62 = .ok (.iload 7, 2) := by decide +kernel
theorem dX12_same_64 : decode cX12_same 64 = .ok (.ifCond .eq 7, 3) := by decide +kernel
theorem dX12_same_67 : decode cX12_same 67 = .ok (.iconst 1, 1) := by decide +kernel
theorem dX12_same_68 : decode cX12_same 68 = .ok (.goto 4, 3) := by decide +kernel
theorem dX12_same_71 : decode cX12_same 71 = .ok (.iconst 0, 1) := by decide +kernel
theorem dX12_same_72 : decode cX12_same 72 = .ok (.iadd, 1) := by decide +kernel
theorem dX12_same_73 : decode cX12_same 73 = .ok (.istore_n 2, 1) := by decide +kernel
theorem dX12_same_74 : decode cX12_same 74 = .ok (.iload 7, 2) := by decide +kernel
theorem dX12_same_76 : decode cX12_same 76 = .ok (.ifCond .eq 27, 3) := by decide +kernel
theorem dX12_same_79 : decode cX12_same 79 = .ok (.iload_n 3, 1) := by decide +kernel
theorem dX12_same_80 : decode cX12_same 80 = .ok (.bipush (-9), 2) := by decide +kernel
theorem dX12_same_82 : decode cX12_same 82 = .ok (.if_icmp .ne 21, 3) := by decide +kernel
theorem dX12_same_85 : decode cX12_same 85 = .ok (.sipush 1000, 3) := by decide +kernel
theorem dX12_same_88 : decode cX12_same 88 = .ok (.iload 4, 2) := by decide +kernel
theorem dX12_same_90 : decode cX12_same 90 = .ok (.imul, 1) := by decide +kernel
theorem dX12_same_91 : decode cX12_same 91 = .ok (.bipush 100, 2) := by decide +kernel
theorem dX12_same_93 : decode cX12_same 93 = .ok (.iload 5, 2) := by decide +kernel
theorem dX12_same_95 : decode cX12_same 95 = .ok (.imul, 1) := by decide +kernel
theorem dX12_same_96 : decode cX12_same 96 = .ok (.iadd, 1) := by decide +kernel
theorem dX12_same_97 : decode cX12_same 97 = .ok (.iload 6, 2) := by decide +kernel
theorem dX12_same_99 : decode cX12_same 99 = .ok (.iadd, 1) := by decide +kernel
theorem dX12_same_100 : decode cX12_same 100 = .ok (.goto 4, 3) := by decide +kernel
theorem dX12_same_103 : decode cX12_same 103 = .ok (.iload_n 3, 1) := by decide +kernel
theorem dX12_same_104 : decode cX12_same 104 = .ok (.istore_n 3, 1) := by decide +kernel
theorem dX12_same_105 : decode cX12_same 105 = .ok (.iinc 6 1, 3) := by decide +kernel
theorem dX12_same_108 : decode cX12_same 108 = .ok (.goto (-66), 3) := by decide +kernel
theorem dX12_same_111 : decode cX12_same 111 = .ok (.iinc 5 1, 3) := by decide +kernel
theorem dX12_same_114 : decode cX12_same 114 = .ok (.goto (-82), 3) := by decide +kernel
theorem dX12_same_117 : decode cX12_same 117 = .ok (.iinc 4 1, 3) := by decide +kernel
theorem dX12_same_120 : decode cX12_same 120 = .ok (.goto (-97), 3) := by decide +kernel
theorem dX12_same_123 : decode cX12_same 123 = .ok (.iload_n 1, 1) := by decide +kernel
theorem dX12_same_124 : decode cX12_same 124 = .ok (.ifCond .ne 7, 3) := by decide +kernel
theorem dX12_same_127 : decode cX12_same 127 = .ok (.iload_n 2, 1) := by decide +kernel
theorem dX12_same_128 : decode cX12_same 128 = .ok (.goto 4, 3) := by decide +kernel
theorem dX12_same_131 : decode cX12_same 131 = .ok (.iload_n 3, 1) := by decide +kernel
theorem dX12_same_132 : decode cX12_same 132 = .ok (.ireturn, 1) := by decide +kernel
theorem dX12_keep_0 : decode cX12_keep 0 = .ok (.iload_n 1, 1) := by decide +kernel
theorem dX12_keep_1 : decode cX12_keep 1 = .ok (.iconst 0, 1) := by decide +kernel
theorem dX12_keep_2 : decode cX12_keep 2 = .ok (.iconst 1, 1) := by decide +kernel
theorem dX12_keep_3 : decode cX12_keep 3 = .ok (.invokestatic 87, 3) := by decide +kernel
theorem dX12_keep_6 : decode cX12_keep 6 = .ok (.ifCond .ne 5, 3) := by decide +kernel
theorem dX12_keep_9 : decode cX12_keep 9 = .ok (.iconst (-1), 1) := by decide +kernel
theorem dX12_keep_10 : decode cX12_keep 10 = .ok (.ireturn, 1) := by decide +kernel
theorem dX12_keep_11 : decode cX12_keep 11 = .ok (.aload_n 0, 1) := by decide +kernel
theorem dX12_keep_12 : decode cX12_keep 12 = .ok (.getfield 7, 3) := by decide +kernel
theorem dX12_keep_15 : decode cX12_keep 15 = .ok (.iconst 0, 1) := by decide +kernel
theorem dX12_keep_16 : decode cX12_keep 16 = .ok (.aload_n 0, 1) := by decide +kernel
theorem dX12_keep_17 : decode cX12_keep 17 = .ok (.getfield 19, 3) := by decide +kernel
theorem dX12_keep_20 : decode cX12_keep 20 = .ok (.bipush 98, 2) := by decide +kernel
theorem dX12_keep_22 : decode cX12_keep 22 = .ok (.iload_n 1, 1) := by decide +kernel
theorem dX12_keep_23 : decode cX12_keep 23 = .ok (.imul, 1) := by decide +kernel
theorem dX12_keep_24 : decode cX12_keep 24 = .ok (.invokestatic 165, 3) := by decide +kernel
theorem dX12_keep_27 : decode cX12_keep 27 = .ok (.aload_n 0, 1) := by decide +kernel
theorem dX12_keep_28 : decode cX12_keep 28 = .ok (.getfield 22, 3) := by decide +kernel
theorem dX12_keep_31 : decode cX12_keep 31 = .ok (.iload_n 1, 1) := by decide +kernel
theorem dX12_keep_32 : decode cX12_keep 32 = .ok (.iconst 1, 1) := by decide +kernel
theorem dX12_keep_33 : decode cX12_keep 33 = .ok (.bastore, 1) := by decide +kernel
theorem dX12_keep_34 : decode cX12_keep 34 = .ok (.aload_n 0, 1) := by decide +kernel
theorem dX12_keep_35 : decode cX12_keep 35 = .ok (.getfield 7, 3) := by decide +kernel
theorem dX12_keep_38 : decode cX12_keep 38 = .ok (.bipush 17, 2) := by decide +kernel
theorem dX12_keep_40 : decode cX12_keep 40 = .ok (.iaload, 1) := by decide +kernel
theorem dX12_keep_41 : decode cX12_keep 41 = .ok (.ireturn, 1) := by decide +kernel
theorem dX12_back_0 : decode cX12_back 0 = .ok (.iload_n 1, 1) := by decide +kernel
theorem dX12_back_1 : decode cX12_back 1 = .ok (.iconst 0, 1) := by decide +kernel
theorem dX12_back_2 : decode cX12_back 2 = .ok (.iconst 1, 1) := by decide +kernel
theorem dX12_back_3 : decode cX12_back 3 = .ok (.invokestatic 87, 3) := by decide +kernel
theorem dX12_back_6 : decode cX12_back 6 = .ok (.ifCond .ne 5, 3) := by decide +kernel
theorem dX12_back_9 : decode cX12_back 9 = .ok (.iconst (-1), 1) := by decide +kernel
theorem dX12_back_10 : decode cX12_back 10 = .ok (.ireturn, 1) := by decide +kernel
theorem dX12_back_11 : decode cX12_back 11 = .ok (.aload_n 0, 1) := by decide +kernel
theorem dX12_back_12 : decode cX12_back 12 = .ok (.getfield 22, 3) := by decide +kernel
theorem dX12_back_15 : decode cX12_back 15 = .ok (.iload_n 1, 1) := by decide +kernel
theorem dX12_back_16 : decode cX12_back 16 = .ok (.baload, 1) := by decide +kernel
theorem dX12_back_17 : decode cX12_back 17 = .ok (.ifCond .ne 6, 3) := by decide +kernel
theorem dX12_back_20 : decode cX12_back 20 = .ok (.bipush (-2), 2) := by decide +kernel
theorem dX12_back_22 : decode cX12_back 22 = .ok (.ireturn, 1) := by decide +kernel
theorem dX12_back_23 : decode cX12_back 23 = .ok (.aload_n 0, 1) := by decide +kernel
theorem dX12_back_24 : decode cX12_back 24 = .ok (.getfield 19, 3) := by decide +kernel
theorem dX12_back_27 : decode cX12_back 27 = .ok (.bipush 98, 2) := by decide +kernel
theorem dX12_back_29 : decode cX12_back 29 = .ok (.iload_n 1, 1) := by decide +kernel
theorem dX12_back_30 : decode cX12_back 30 = .ok (.imul, 1) := by decide +kernel
theorem dX12_back_31 : decode cX12_back 31 = .ok (.aload_n 0, 1) := by decide +kernel
theorem dX12_back_32 : decode cX12_back 32 = .ok (.getfield 7, 3) := by decide +kernel
theorem dX12_back_35 : decode cX12_back 35 = .ok (.iconst 0, 1) := by decide +kernel
theorem dX12_back_36 : decode cX12_back 36 = .ok (.invokestatic 165, 3) := by decide +kernel
theorem dX12_back_39 : decode cX12_back 39 = .ok (.aload_n 0, 1) := by decide +kernel
theorem dX12_back_40 : decode cX12_back 40 = .ok (.iconst 0, 1) := by decide +kernel
theorem dX12_back_41 : decode cX12_back 41 = .ok (.putfield 162, 3) := by decide +kernel
theorem dX12_back_44 : decode cX12_back 44 = .ok (.aload_n 0, 1) := by decide +kernel
theorem dX12_back_45 : decode cX12_back 45 = .ok (.getfield 7, 3) := by decide +kernel
theorem dX12_back_48 : decode cX12_back 48 = .ok (.bipush 17, 2) := by decide +kernel
theorem dX12_back_50 : decode cX12_back 50 = .ok (.iaload, 1) := by decide +kernel
theorem dX12_back_51 : decode cX12_back 51 = .ok (.ireturn, 1) := by decide +kernel
theorem dX12_count_0 : decode cX12_count 0 = .ok (.iload_n 1, 1) := by decide +kernel
theorem dX12_count_1 : decode cX12_count 1 = .ok (.tableswitch 176 0 9 #[55, 62, 70, 79, 84, 92, 100, 133, 166, 171], 55) := by decide +kernel
theorem dX12_count_56 : decode cX12_count 56 = .ok (.aload_n 0, 1) := by decide +kernel
theorem dX12_count_57 : decode cX12_count 57 = .ok (.getfield 7, 3) := by decide +kernel
theorem dX12_count_60 : decode cX12_count 60 = .ok (.iconst 0, 1) := by decide +kernel
theorem dX12_count_61 : decode cX12_count 61 = .ok (.iaload, 1) := by decide +kernel
theorem dX12_count_62 : decode cX12_count 62 = .ok (.ireturn, 1) := by decide +kernel
theorem dX12_count_63 : decode cX12_count 63 = .ok (.aload_n 0, 1) := by decide +kernel
theorem dX12_count_64 : decode cX12_count 64 = .ok (.getfield 7, 3) := by decide +kernel
theorem dX12_count_67 : decode cX12_count 67 = .ok (.bipush 17, 2) := by decide +kernel
theorem dX12_count_69 : decode cX12_count 69 = .ok (.iaload, 1) := by decide +kernel
theorem dX12_count_70 : decode cX12_count 70 = .ok (.ireturn, 1) := by decide +kernel
theorem dX12_count_71 : decode cX12_count 71 = .ok (.aload_n 0, 1) := by decide +kernel
theorem dX12_count_72 : decode cX12_count 72 = .ok (.invokevirtual 215, 3) := by decide +kernel
theorem dX12_count_75 : decode cX12_count 75 = .ok (.aload_n 0, 1) := by decide +kernel
theorem dX12_count_76 : decode cX12_count 76 = .ok (.getfield 200, 3) := by decide +kernel
theorem dX12_count_79 : decode cX12_count 79 = .ok (.ireturn, 1) := by decide +kernel
theorem dX12_count_80 : decode cX12_count 80 = .ok (.aload_n 0, 1) := by decide +kernel
theorem dX12_count_81 : decode cX12_count 81 = .ok (.invokevirtual 224, 3) := by decide +kernel
theorem dX12_count_84 : decode cX12_count 84 = .ok (.ireturn, 1) := by decide +kernel
theorem dX12_count_85 : decode cX12_count 85 = .ok (.aload_n 0, 1) := by decide +kernel
theorem dX12_count_86 : decode cX12_count 86 = .ok (.getfield 7, 3) := by decide +kernel
theorem dX12_count_89 : decode cX12_count 89 = .ok (.bipush 15, 2) := by decide +kernel
theorem dX12_count_91 : decode cX12_count 91 = .ok (.iaload, 1) := by decide +kernel
theorem dX12_count_92 : decode cX12_count 92 = .ok (.ireturn, 1) := by decide +kernel
theorem dX12_count_93 : decode cX12_count 93 = .ok (.aload_n 0, 1) := by decide +kernel
theorem dX12_count_94 : decode cX12_count 94 = .ok (.getfield 7, 3) := by decide +kernel
theorem dX12_count_97 : decode cX12_count 97 = .ok (.bipush 16, 2) := by decide +kernel
theorem dX12_count_99 : decode cX12_count 99 = .ok (.iaload, 1) := by decide +kernel
theorem dX12_count_100 : decode cX12_count 100 = .ok (.ireturn, 1) := by decide +kernel
theorem dX12_count_101 : decode cX12_count 101 = .ok (.aload_n 0, 1) := by decide +kernel
theorem dX12_count_102 : decode cX12_count 102 = .ok (.invokevirtual 212, 3) := by decide +kernel
theorem dX12_count_105 : decode cX12_count 105 = .ok (.aload_n 0, 1) := by decide +kernel
theorem dX12_count_106 : decode cX12_count 106 = .ok (.getfield 7, 3) := by decide +kernel
theorem dX12_count_109 : decode cX12_count 109 = .ok (.bipush 17, 2) := by decide +kernel
theorem dX12_count_111 : decode cX12_count 111 = .ok (.iaload, 1) := by decide +kernel
theorem dX12_count_112 : decode cX12_count 112 = .ok (.ifCond .ne 7, 3) := by decide +kernel
theorem dX12_count_115 : decode cX12_count 115 = .ok (.iconst 0, 1) := by decide +kernel
theorem dX12_count_116 : decode cX12_count 116 = .ok (.goto 17, 3) := by decide +kernel
theorem dX12_count_119 : decode cX12_count 119 = .ok (.aload_n 0, 1) := by decide +kernel
theorem dX12_count_120 : decode cX12_count 120 = .ok (.getfield 35, 3) := by decide +kernel
theorem dX12_count_123 : decode cX12_count 123 = .ok (.aload_n 0, 1) := by decide +kernel
theorem dX12_count_124 : decode cX12_count 124 = .ok (.getfield 7, 3) := by decide +kernel
theorem dX12_count_127 : decode cX12_count 127 = .ok (.bipush 17, 2) := by decide +kernel
theorem dX12_count_129 : decode cX12_count 129 = .ok (.iaload, 1) := by decide +kernel
theorem dX12_count_130 : decode cX12_count 130 = .ok (.iconst 1, 1) := by decide +kernel
theorem dX12_count_131 : decode cX12_count 131 = .ok (.isub, 1) := by decide +kernel
theorem dX12_count_132 : decode cX12_count 132 = .ok (.iaload, 1) := by decide +kernel
theorem dX12_count_133 : decode cX12_count 133 = .ok (.ireturn, 1) := by decide +kernel
theorem dX12_count_134 : decode cX12_count 134 = .ok (.aload_n 0, 1) := by decide +kernel
theorem dX12_count_135 : decode cX12_count 135 = .ok (.invokevirtual 212, 3) := by decide +kernel
theorem dX12_count_138 : decode cX12_count 138 = .ok (.aload_n 0, 1) := by decide +kernel
theorem dX12_count_139 : decode cX12_count 139 = .ok (.getfield 7, 3) := by decide +kernel
theorem dX12_count_142 : decode cX12_count 142 = .ok (.bipush 17, 2) := by decide +kernel
theorem dX12_count_144 : decode cX12_count 144 = .ok (.iaload, 1) := by decide +kernel
theorem dX12_count_145 : decode cX12_count 145 = .ok (.ifCond .ne 7, 3) := by decide +kernel
theorem dX12_count_148 : decode cX12_count 148 = .ok (.iconst 0, 1) := by decide +kernel
theorem dX12_count_149 : decode cX12_count 149 = .ok (.goto 17, 3) := by decide +kernel
theorem dX12_count_152 : decode cX12_count 152 = .ok (.aload_n 0, 1) := by decide +kernel
theorem dX12_count_153 : decode cX12_count 153 = .ok (.getfield 38, 3) := by decide +kernel
theorem dX12_count_156 : decode cX12_count 156 = .ok (.aload_n 0, 1) := by decide +kernel
theorem dX12_count_157 : decode cX12_count 157 = .ok (.getfield 7, 3) := by decide +kernel
theorem dX12_count_160 : decode cX12_count 160 = .ok (.bipush 17, 2) := by decide +kernel
theorem dX12_count_162 : decode cX12_count 162 = .ok (.iaload, 1) := by decide +kernel
theorem dX12_count_163 : decode cX12_count 163 = .ok (.iconst 1, 1) := by decide +kernel
theorem dX12_count_164 : decode cX12_count 164 = .ok (.isub, 1) := by decide +kernel
theorem dX12_count_165 : decode cX12_count 165 = .ok (.iaload, 1) := by decide +kernel
theorem dX12_count_166 : decode cX12_count 166 = .ok (.ireturn, 1) := by decide +kernel
theorem dX12_count_167 : decode cX12_count 167 = .ok (.aload_n 0, 1) := by decide +kernel
theorem dX12_count_168 : decode cX12_count 168 = .ok (.getfield 102, 3) := by decide +kernel
theorem dX12_count_171 : decode cX12_count 171 = .ok (.ireturn, 1) := by decide +kernel
theorem dX12_count_172 : decode cX12_count 172 = .ok (.aload_n 0, 1) := by decide +kernel
theorem dX12_count_173 : decode cX12_count 173 = .ok (.getfield 162, 3) := by decide +kernel
theorem dX12_count_176 : decode cX12_count 176 = .ok (.ireturn, 1) := by decide +kernel
theorem dX12_count_177 : decode cX12_count 177 = .ok (.iconst (-1), 1) := by decide +kernel
theorem dX12_count_178 : decode cX12_count 178 = .ok (.ireturn, 1) := by decide +kernel
theorem dJ6_bitCount_0f7a4_0 : decode cJ6_bitCount_0f7a4 0 = .ok (.iload_n 0, 1) := by decide +kernel
theorem dJ6_bitCount_0f7a4_1 : decode cJ6_bitCount_0f7a4 1 = .ok (.iload_n 0, 1) := by decide +kernel
theorem dJ6_bitCount_0f7a4_2 : decode cJ6_bitCount_0f7a4 2 = .ok (.iconst 1, 1) := by decide +kernel
theorem dJ6_bitCount_0f7a4_3 : decode cJ6_bitCount_0f7a4 3 = .ok (.iushr, 1) := by decide +kernel
theorem dJ6_bitCount_0f7a4_4 : decode cJ6_bitCount_0f7a4 4 = .ok (.ldc_w 265, 3) := by decide +kernel
theorem dJ6_bitCount_0f7a4_7 : decode cJ6_bitCount_0f7a4 7 = .ok (.iand, 1) := by decide +kernel
theorem dJ6_bitCount_0f7a4_8 : decode cJ6_bitCount_0f7a4 8 = .ok (.isub, 1) := by decide +kernel
theorem dJ6_bitCount_0f7a4_9 : decode cJ6_bitCount_0f7a4 9 = .ok (.istore_n 0, 1) := by decide +kernel
theorem dJ6_bitCount_0f7a4_10 : decode cJ6_bitCount_0f7a4 10 = .ok (.iload_n 0, 1) := by decide +kernel
theorem dJ6_bitCount_0f7a4_11 : decode cJ6_bitCount_0f7a4 11 = .ok (.ldc_w 266, 3) := by decide +kernel
theorem dJ6_bitCount_0f7a4_14 : decode cJ6_bitCount_0f7a4 14 = .ok (.iand, 1) := by decide +kernel
theorem dJ6_bitCount_0f7a4_15 : decode cJ6_bitCount_0f7a4 15 = .ok (.iload_n 0, 1) := by decide +kernel
theorem dJ6_bitCount_0f7a4_16 : decode cJ6_bitCount_0f7a4 16 = .ok (.iconst 2, 1) := by decide +kernel
theorem dJ6_bitCount_0f7a4_17 : decode cJ6_bitCount_0f7a4 17 = .ok (.iushr, 1) := by decide +kernel
theorem dJ6_bitCount_0f7a4_18 : decode cJ6_bitCount_0f7a4 18 = .ok (.ldc_w 266, 3) := by decide +kernel
theorem dJ6_bitCount_0f7a4_21 : decode cJ6_bitCount_0f7a4 21 = .ok (.iand, 1) := by decide +kernel
theorem dJ6_bitCount_0f7a4_22 : decode cJ6_bitCount_0f7a4 22 = .ok (.iadd, 1) := by decide +kernel
theorem dJ6_bitCount_0f7a4_23 : decode cJ6_bitCount_0f7a4 23 = .ok (.istore_n 0, 1) := by decide +kernel
theorem dJ6_bitCount_0f7a4_24 : decode cJ6_bitCount_0f7a4 24 = .ok (.iload_n 0, 1) := by decide +kernel
theorem dJ6_bitCount_0f7a4_25 : decode cJ6_bitCount_0f7a4 25 = .ok (.iload_n 0, 1) := by decide +kernel
theorem dJ6_bitCount_0f7a4_26 : decode cJ6_bitCount_0f7a4 26 = .ok (.iconst 4, 1) := by decide +kernel
theorem dJ6_bitCount_0f7a4_27 : decode cJ6_bitCount_0f7a4 27 = .ok (.iushr, 1) := by decide +kernel
theorem dJ6_bitCount_0f7a4_28 : decode cJ6_bitCount_0f7a4 28 = .ok (.iadd, 1) := by decide +kernel
theorem dJ6_bitCount_0f7a4_29 : decode cJ6_bitCount_0f7a4 29 = .ok (.ldc_w 267, 3) := by decide +kernel
theorem dJ6_bitCount_0f7a4_32 : decode cJ6_bitCount_0f7a4 32 = .ok (.iand, 1) := by decide +kernel
theorem dJ6_bitCount_0f7a4_33 : decode cJ6_bitCount_0f7a4 33 = .ok (.istore_n 0, 1) := by decide +kernel
theorem dJ6_bitCount_0f7a4_34 : decode cJ6_bitCount_0f7a4 34 = .ok (.iload_n 0, 1) := by decide +kernel
theorem dJ6_bitCount_0f7a4_35 : decode cJ6_bitCount_0f7a4 35 = .ok (.iload_n 0, 1) := by decide +kernel
theorem dJ6_bitCount_0f7a4_36 : decode cJ6_bitCount_0f7a4 36 = .ok (.bipush 8, 2) := by decide +kernel
theorem dJ6_bitCount_0f7a4_38 : decode cJ6_bitCount_0f7a4 38 = .ok (.iushr, 1) := by decide +kernel
theorem dJ6_bitCount_0f7a4_39 : decode cJ6_bitCount_0f7a4 39 = .ok (.iadd, 1) := by decide +kernel
theorem dJ6_bitCount_0f7a4_40 : decode cJ6_bitCount_0f7a4 40 = .ok (.istore_n 0, 1) := by decide +kernel
theorem dJ6_bitCount_0f7a4_41 : decode cJ6_bitCount_0f7a4 41 = .ok (.iload_n 0, 1) := by decide +kernel
theorem dJ6_bitCount_0f7a4_42 : decode cJ6_bitCount_0f7a4 42 = .ok (.iload_n 0, 1) := by decide +kernel
theorem dJ6_bitCount_0f7a4_43 : decode cJ6_bitCount_0f7a4 43 = .ok (.bipush 16, 2) := by decide +kernel
theorem dJ6_bitCount_0f7a4_45 : decode cJ6_bitCount_0f7a4 45 = .ok (.iushr, 1) := by decide +kernel
theorem dJ6_bitCount_0f7a4_46 : decode cJ6_bitCount_0f7a4 46 = .ok (.iadd, 1) := by decide +kernel
theorem dJ6_bitCount_0f7a4_47 : decode cJ6_bitCount_0f7a4 47 = .ok (.istore_n 0, 1) := by decide +kernel
theorem dJ6_bitCount_0f7a4_48 : decode cJ6_bitCount_0f7a4 48 = .ok (.iload_n 0, 1) := by decide +kernel
theorem dJ6_bitCount_0f7a4_49 : decode cJ6_bitCount_0f7a4 49 = .ok (.bipush 63, 2) := by decide +kernel
theorem dJ6_bitCount_0f7a4_51 : decode cJ6_bitCount_0f7a4 51 = .ok (.iand, 1) := by decide +kernel
theorem dJ6_bitCount_0f7a4_52 : decode cJ6_bitCount_0f7a4 52 = .ok (.ireturn, 1) := by decide +kernel
theorem dJ9_floorMod_7cf53_0 : decode cJ9_floorMod_7cf53 0 = .ok (.iload_n 0, 1) := by decide +kernel
theorem dJ9_floorMod_7cf53_1 : decode cJ9_floorMod_7cf53 1 = .ok (.iload_n 1, 1) := by decide +kernel
theorem dJ9_floorMod_7cf53_2 : decode cJ9_floorMod_7cf53 2 = .ok (.irem, 1) := by decide +kernel
theorem dJ9_floorMod_7cf53_3 : decode cJ9_floorMod_7cf53 3 = .ok (.istore_n 2, 1) := by decide +kernel
theorem dJ9_floorMod_7cf53_4 : decode cJ9_floorMod_7cf53 4 = .ok (.iload_n 0, 1) := by decide +kernel
theorem dJ9_floorMod_7cf53_5 : decode cJ9_floorMod_7cf53 5 = .ok (.iload_n 1, 1) := by decide +kernel
theorem dJ9_floorMod_7cf53_6 : decode cJ9_floorMod_7cf53 6 = .ok (.ixor, 1) := by decide +kernel
theorem dJ9_floorMod_7cf53_7 : decode cJ9_floorMod_7cf53 7 = .ok (.ifCond .ge 11, 3) := by decide +kernel
theorem dJ9_floorMod_7cf53_10 : decode cJ9_floorMod_7cf53 10 = .ok (.iload_n 2, 1) := by decide +kernel
theorem dJ9_floorMod_7cf53_11 : decode cJ9_floorMod_7cf53 11 = .ok (.ifCond .eq 7, 3) := by decide +kernel
theorem dJ9_floorMod_7cf53_14 : decode cJ9_floorMod_7cf53 14 = .ok (.iload_n 2, 1) := by decide +kernel
theorem dJ9_floorMod_7cf53_15 : decode cJ9_floorMod_7cf53 15 = .ok (.iload_n 1, 1) := by decide +kernel
theorem dJ9_floorMod_7cf53_16 : decode cJ9_floorMod_7cf53 16 = .ok (.iadd, 1) := by decide +kernel
theorem dJ9_floorMod_7cf53_17 : decode cJ9_floorMod_7cf53 17 = .ok (.ireturn, 1) := by decide +kernel
theorem dJ9_floorMod_7cf53_18 : decode cJ9_floorMod_7cf53 18 = .ok (.iload_n 2, 1) := by decide +kernel
theorem dJ9_floorMod_7cf53_19 : decode cJ9_floorMod_7cf53 19 = .ok (.ireturn, 1) := by decide +kernel
theorem dJ9_max_7cf53_0 : decode cJ9_max_7cf53 0 = .ok (.iload_n 0, 1) := by decide +kernel
theorem dJ9_max_7cf53_1 : decode cJ9_max_7cf53 1 = .ok (.iload_n 1, 1) := by decide +kernel
theorem dJ9_max_7cf53_2 : decode cJ9_max_7cf53 2 = .ok (.if_icmp .lt 7, 3) := by decide +kernel
theorem dJ9_max_7cf53_5 : decode cJ9_max_7cf53 5 = .ok (.iload_n 0, 1) := by decide +kernel
theorem dJ9_max_7cf53_6 : decode cJ9_max_7cf53 6 = .ok (.goto 4, 3) := by decide +kernel
