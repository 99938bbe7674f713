theorem dX4_hasRulesOf_25 : decode cX4_hasRulesOf 25 = .ok (.if_icmp .ge 56, 3) := by decide +kernel
theorem dX4_hasRulesOf_28 : decode cX4_hasRulesOf 28 = .ok (.aload_n 0, 1) := by decide +kernel
theorem dX4_hasRulesOf_29 : decode cX4_hasRulesOf 29 = .ok (.getfield 9, 3) := by decide +kernel
theorem dX4_hasRulesOf_32 : decode cX4_hasRulesOf 32 = .ok (.iload_n 2, 1) := by decide +kernel
theorem dX4_hasRulesOf_33 : decode cX4_hasRulesOf 33 = .ok (.iaload, 1) := by decide +kernel
theorem dX4_hasRulesOf_34 : decode cX4_hasRulesOf 34 = .ok (.aload_n 1, 1) := by decide +kernel
theorem dX4_hasRulesOf_35 : decode cX4_hasRulesOf 35 = .ok (.getfield 9, 3) := by decide +kernel
theorem dX4_hasRulesOf_38 : decode cX4_hasRulesOf 38 = .ok (.iload_n 2, 1) := by decide +kernel
theorem dX4_hasRulesOf_39 : decode cX4_hasRulesOf 39 = .ok (.iaload, 1) := by decide +kernel
theorem dX4_hasRulesOf_40 : decode cX4_hasRulesOf 40 = .ok (.if_icmp .ne 33, 3) := by decide +kernel
theorem dX4_hasRulesOf_43 : decode cX4_hasRulesOf 43 = .ok (.aload_n 0, 1) := by decide +kernel
theorem dX4_hasRulesOf_44 : decode cX4_hasRulesOf 44 = .ok (.getfield 15, 3) := by decide +kernel
theorem dX4_hasRulesOf_47 : decode cX4_hasRulesOf 47 = .ok (.iload_n 2, 1) := by decide +kernel
theorem dX4_hasRulesOf_48 : decode cX4_hasRulesOf 48 = .ok (.iaload, 1) := by decide +kernel
theorem dX4_hasRulesOf_49 : decode cX4_hasRulesOf 49 = .ok (.aload_n 1, 1) := by decide +kernel
theorem dX4_hasRulesOf_50 : decode cX4_hasRulesOf 50 = .ok (.getfield 15, 3) := by decide +kernel
theorem dX4_hasRulesOf_53 : decode cX4_hasRulesOf 53 = .ok (.iload_n 2, 1) := by decide +kernel
theorem dX4_hasRulesOf_54 : decode cX4_hasRulesOf 54 = .ok (.iaload, 1) := by decide +kernel
theorem dX4_hasRulesOf_55 : decode cX4_hasRulesOf 55 = .ok (.if_icmp .ne 18, 3) := by decide +kernel
theorem dX4_hasRulesOf_58 : decode cX4_hasRulesOf 58 = .ok (.aload_n 0, 1) := by decide +kernel
theorem dX4_hasRulesOf_59 : decode cX4_hasRulesOf 59 = .ok (.getfield 18, 3) := by decide +kernel
theorem dX4_hasRulesOf_62 : decode cX4_hasRulesOf 62 = .ok (.iload_n 2, 1) := by decide +kernel
theorem dX4_hasRulesOf_63 : decode cX4_hasRulesOf 63 = .ok (.iaload, 1) := by decide +kernel
theorem dX4_hasRulesOf_64 : decode cX4_hasRulesOf 64 = .ok (.aload_n 1, 1) := by decide +kernel
theorem dX4_hasRulesOf_65 : decode cX4_hasRulesOf 65 = .ok (.getfield 18, 3) := by decide +kernel
theorem dX4_hasRulesOf_68 : decode cX4_hasRulesOf 68 = .ok (.iload_n 2, 1) := by decide +kernel
theorem dX4_hasRulesOf_69 : decode cX4_hasRulesOf 69 = .ok (.iaload, 1) := by decide +kernel
theorem dX4_hasRulesOf_70 : decode cX4_hasRulesOf 70 = .ok (.if_icmp .eq 5, 3) := by decide +kernel
theorem dX4_hasRulesOf_73 : decode cX4_hasRulesOf 73 = .ok (.iconst 0, 1) := by decide +kernel
theorem dX4_hasRulesOf_74 : decode cX4_hasRulesOf 74 = .ok (.ireturn, 1) := by decide +kernel
theorem dX4_hasRulesOf_75 : decode cX4_hasRulesOf 75 = .ok (.iinc 2 1, 3) := by decide +kernel
theorem dX4_hasRulesOf_78 : decode cX4_hasRulesOf 78 = .ok (.goto (-63), 3) := by decide +kernel
theorem dX4_hasRulesOf_81 : decode cX4_hasRulesOf 81 = .ok (.iconst 1, 1) := by decide +kernel
theorem dX4_hasRulesOf_82 : decode cX4_hasRulesOf 82 = .ok (.ireturn, 1) := by decide +kernel
theorem dX4_hasChancesOf_0 : decode cX4_hasChancesOf 0 = .ok (.iconst 0, 1) := by decide +kernel
theorem dX4_hasChancesOf_1 : decode cX4_hasChancesOf 1 = .ok (.istore_n 2, 1) := by decide +kernel
theorem dX4_hasChancesOf_2 : decode cX4_hasChancesOf 2 = .ok (.iload_n 2, 1) := by decide +kernel
theorem dX4_hasChancesOf_3 : decode cX4_hasChancesOf 3 = .ok (.iconst 5, 1) := by decide +kernel
theorem dX4_hasChancesOf_4 : decode cX4_hasChancesOf 4 = .ok (.if_icmp .ge 26, 3) := by decide +kernel
theorem dX4_hasChancesOf_7 : decode cX4_hasChancesOf 7 = .ok (.aload_n 0, 1) := by decide +kernel
theorem dX4_hasChancesOf_8 : decode cX4_hasChancesOf 8 = .ok (.getfield 21, 3) := by decide +kernel
theorem dX4_hasChancesOf_11 : decode cX4_hasChancesOf 11 = .ok (.iload_n 2, 1) := by decide +kernel
theorem dX4_hasChancesOf_12 : decode cX4_hasChancesOf 12 = .ok (.iaload, 1) := by decide +kernel
theorem dX4_hasChancesOf_13 : decode cX4_hasChancesOf 13 = .ok (.aload_n 1, 1) := by decide +kernel
theorem dX4_hasChancesOf_14 : decode cX4_hasChancesOf 14 = .ok (.getfield 21, 3) := by decide +kernel
theorem dX4_hasChancesOf_17 : decode cX4_hasChancesOf 17 = .ok (.iload_n 2, 1) := by decide +kernel
theorem dX4_hasChancesOf_18 : decode cX4_hasChancesOf 18 = .ok (.iaload, 1) := by decide +kernel
theorem dX4_hasChancesOf_19 : decode cX4_hasChancesOf 19 = .ok (.if_icmp .eq 5, 3) := by decide +kernel
theorem dX4_hasChancesOf_22 : decode cX4_hasChancesOf 22 = .ok (.iconst 0, 1) := by decide +kernel
theorem dX4_hasChancesOf_23 : decode cX4_hasChancesOf 23 = .ok (.ireturn, 1) := by decide +kernel
theorem dX4_hasChancesOf_24 : decode cX4_hasChancesOf 24 = .ok (.iinc 2 1, 3) := by decide +kernel
theorem dX4_hasChancesOf_27 : decode cX4_hasChancesOf 27 = .ok (.goto (-25), 3) := by decide +kernel
theorem dX4_hasChancesOf_30 : decode cX4_hasChancesOf 30 = .ok (.iconst 1, 1) := by decide +kernel
theorem dX4_hasChancesOf_31 : decode cX4_hasChancesOf 31 = .ok (.ireturn, 1) := by decide +kernel
theorem dX4_pastWidth_0 : decode cX4_pastWidth 0 = .ok (.iconst 0, 1) := by decide +kernel
theorem dX4_pastWidth_1 : decode cX4_pastWidth 1 = .ok (.istore_n 1, 1) := by decide +kernel
theorem dX4_pastWidth_2 : decode cX4_pastWidth 2 = .ok (.iconst 0, 1) := by decide +kernel
theorem dX4_pastWidth_3 : decode cX4_pastWidth 3 = .ok (.istore_n 2, 1) := by decide +kernel
theorem dX4_pastWidth_4 : decode cX4_pastWidth 4 = .ok (.iload_n 2, 1) := by decide +kernel
theorem dX4_pastWidth_5 : decode cX4_pastWidth 5 = .ok (.aload_n 0, 1) := by decide +kernel
theorem dX4_pastWidth_6 : decode cX4_pastWidth 6 = .ok (.getfield 27, 3) := by decide +kernel
theorem dX4_pastWidth_9 : decode cX4_pastWidth 9 = .ok (.if_icmp .ge 25, 3) := by decide +kernel
theorem dX4_pastWidth_12 : decode cX4_pastWidth 12 = .ok (.iload_n 2, 1) := by decide +kernel
theorem dX4_pastWidth_13 : decode cX4_pastWidth 13 = .ok (.iconst 3, 1) := by decide +kernel
theorem dX4_pastWidth_14 : decode cX4_pastWidth 14 = .ok (.if_icmp .ge 20, 3) := by decide +kernel
theorem dX4_pastWidth_17 : decode cX4_pastWidth 17 = .ok (.iload_n 1, 1) := by decide +kernel
theorem dX4_pastWidth_18 : decode cX4_pastWidth 18 = .ok (.aload_n 0, 1) := by decide +kernel
theorem dX4_pastWidth_19 : decode cX4_pastWidth 19 = .ok (.getfield 15, 3) := by decide +kernel
theorem dX4_pastWidth_22 : decode cX4_pastWidth 22 = .ok (.iload_n 2, 1) := by decide +kernel
theorem dX4_pastWidth_23 : decode cX4_pastWidth 23 = .ok (.iaload, 1) := by decide +kernel
theorem dX4_pastWidth_24 : decode cX4_pastWidth 24 = .ok (.iconst 1, 1) := by decide +kernel
theorem dX4_pastWidth_25 : decode cX4_pastWidth 25 = .ok (.isub, 1) := by decide +kernel
theorem dX4_pastWidth_26 : decode cX4_pastWidth 26 = .ok (.iadd, 1) := by decide +kernel
theorem dX4_pastWidth_27 : decode cX4_pastWidth 27 = .ok (.istore_n 1, 1) := by decide +kernel
theorem dX4_pastWidth_28 : decode cX4_pastWidth 28 = .ok (.iinc 2 1, 3) := by decide +kernel
theorem dX4_pastWidth_31 : decode cX4_pastWidth 31 = .ok (.goto (-27), 3) := by decide +kernel
theorem dX4_pastWidth_34 : decode cX4_pastWidth 34 = .ok (.iload_n 1, 1) := by decide +kernel
theorem dX4_pastWidth_35 : decode cX4_pastWidth 35 = .ok (.ireturn, 1) := by decide +kernel
theorem dX4_addRule_0 : decode cX4_addRule 0 = .ok (.aload_n 0, 1) := by decide +kernel
theorem dX4_addRule_1 : decode cX4_addRule 1 = .ok (.getfield 27, 3) := by decide +kernel
theorem dX4_addRule_4 : decode cX4_addRule 4 = .ok (.iconst 3, 1) := by decide +kernel
theorem dX4_addRule_5 : decode cX4_addRule 5 = .ok (.if_icmp .ge 43, 3) := by decide +kernel
theorem dX4_addRule_8 : decode cX4_addRule 8 = .ok (.aload_n 0, 1) := by decide +kernel
theorem dX4_addRule_9 : decode cX4_addRule 9 = .ok (.getfield 9, 3) := by decide +kernel
theorem dX4_addRule_12 : decode cX4_addRule 12 = .ok (.aload_n 0, 1) := by decide +kernel
theorem dX4_addRule_13 : decode cX4_addRule 13 = .ok (.getfield 27, 3) := by decide +kernel
theorem dX4_addRule_16 : decode cX4_addRule 16 = .ok (.iload_n 1, 1) := by decide +kernel
theorem dX4_addRule_17 : decode cX4_addRule 17 = .ok (.iastore, 1) := by decide +kernel
theorem dX4_addRule_18 : decode cX4_addRule 18 = .ok (.aload_n 0, 1) := by decide +kernel
theorem dX4_addRule_19 : decode cX4_addRule 19 = .ok (.getfield 15, 3) := by decide +kernel
theorem dX4_addRule_22 : decode cX4_addRule 22 = .ok (.aload_n 0, 1) := by decide +kernel
theorem dX4_addRule_23 : decode cX4_addRule 23 = .ok (.getfield 27, 3) := by decide +kernel
theorem dX4_addRule_26 : decode cX4_addRule 26 = .ok (.iload_n 2, 1) := by decide +kernel
theorem dX4_addRule_27 : decode cX4_addRule 27 = .ok (.iastore, 1) := by decide +kernel
theorem dX4_addRule_28 : decode cX4_addRule 28 = .ok (.aload_n 0, 1) := by decide +kernel
theorem dX4_addRule_29 : decode cX4_addRule 29 = .ok (.getfield 18, 3) := by decide +kernel
theorem dX4_addRule_32 : decode cX4_addRule 32 = .ok (.aload_n 0, 1) := by decide +kernel
theorem dX4_addRule_33 : decode cX4_addRule 33 = .ok (.getfield 27, 3) := by decide +kernel
theorem dX4_addRule_36 : decode cX4_addRule 36 = .ok (.iload_n 3, 1) := by decide +kernel
theorem dX4_addRule_37 : decode cX4_addRule 37 = .ok (.iastore, 1) := by decide +kernel
theorem dX4_addRule_38 : decode cX4_addRule 38 = .ok (.aload_n 0, 1) := by decide +kernel
theorem dX4_addRule_39 : decode cX4_addRule 39 = .ok (.dup, 1) := by decide +kernel
theorem dX4_addRule_40 : decode cX4_addRule 40 = .ok (.getfield 27, 3) := by decide +kernel
theorem dX4_addRule_43 : decode cX4_addRule 43 = .ok (.iconst 1, 1) := by decide +kernel
theorem dX4_addRule_44 : decode cX4_addRule 44 = .ok (.iadd, 1) := by decide +kernel
theorem dX4_addRule_45 : decode cX4_addRule 45 = .ok (.putfield 27, 3) := by decide +kernel
theorem dX4_addRule_48 : decode cX4_addRule 48 = .ok (.return_, 1) := by decide +kernel
theorem dX4_pass_0 : decode cX4_pass 0 = .ok (.iconst 0, 1) := by decide +kernel
theorem dX4_pass_1 : decode cX4_pass 1 = .ok (.istore_n 3, 1) := by decide +kernel
theorem dX4_pass_2 : decode cX4_pass 2 = .ok (.iconst 0, 1) := by decide +kernel
theorem dX4_pass_3 : decode cX4_pass 3 = .ok (.istore 4, 2) := by decide +kernel
theorem dX4_pass_5 : decode cX4_pass 5 = .ok (.iconst 0, 1) := by decide +kernel
theorem dX4_pass_6 : decode cX4_pass 6 = .ok (.istore 5, 2) := by decide +kernel
theorem dX4_pass_8 : decode cX4_pass 8 = .ok (.iconst 0, 1) := by decide +kernel
theorem dX4_pass_9 : decode cX4_pass 9 = .ok (.istore 6, 2) := by decide +kernel
theorem dX4_pass_11 : decode cX4_pass 11 = .ok (.iload 6, 2) := by decide +kernel
theorem dX4_pass_13 : decode cX4_pass 13 = .ok (.aload_n 0, 1) := by decide +kernel
theorem dX4_pass_14 : decode cX4_pass 14 = .ok (.getfield 27, 3) := by decide +kernel
theorem dX4_pass_17 : decode cX4_pass 17 = .ok (.if_icmp .ge 99, 3) := by decide +kernel
theorem dX4_pass_20 : decode cX4_pass 20 = .ok (.iload 6, 2) := by decide +kernel
theorem dX4_pass_22 : decode cX4_pass 22 = .ok (.iconst 3, 1) := by decide +kernel
theorem dX4_pass_23 : decode cX4_pass 23 = .ok (.if_icmp .ge 93, 3) := by decide +kernel
theorem dX4_pass_26 : decode cX4_pass 26 = .ok (.aload_n 0, 1) := by decide +kernel
theorem dX4_pass_27 : decode cX4_pass 27 = .ok (.getfield 15, 3) := by decide +kernel
theorem dX4_pass_30 : decode cX4_pass 30 = .ok (.iload 6, 2) := by decide +kernel
theorem dX4_pass_32 : decode cX4_pass 32 = .ok (.iaload, 1) := by decide +kernel
theorem dX4_pass_33 : decode cX4_pass 33 = .ok (.iconst 1, 1) := by decide +kernel
theorem dX4_pass_34 : decode cX4_pass 34 = .ok (.isub, 1) := by decide +kernel
theorem dX4_pass_35 : decode cX4_pass 35 = .ok (.istore 7, 2) := by decide +kernel
theorem dX4_pass_37 : decode cX4_pass 37 = .ok (.iconst 1, 1) := by decide +kernel
theorem dX4_pass_38 : decode cX4_pass 38 = .ok (.iload 7, 2) := by decide +kernel
theorem dX4_pass_40 : decode cX4_pass 40 = .ok (.ishl, 1) := by decide +kernel
theorem dX4_pass_41 : decode cX4_pass 41 = .ok (.iconst 1, 1) := by decide +kernel
theorem dX4_pass_42 : decode cX4_pass 42 = .ok (.isub, 1) := by decide +kernel
theorem dX4_pass_43 : decode cX4_pass 43 = .ok (.istore 8, 2) := by decide +kernel
theorem dX4_pass_45 : decode cX4_pass 45 = .ok (.iload_n 1, 1) := by decide +kernel
theorem dX4_pass_46 : decode cX4_pass 46 = .ok (.iload 5, 2) := by decide +kernel
theorem dX4_pass_48 : decode cX4_pass 48 = .ok (.ishr, 1) := by decide +kernel
theorem dX4_pass_49 : decode cX4_pass 49 = .ok (.iload 8, 2) := by decide +kernel
theorem dX4_pass_51 : decode cX4_pass 51 = .ok (.iand, 1) := by decide +kernel
theorem dX4_pass_52 : decode cX4_pass 52 = .ok (.iconst 1, 1) := by decide +kernel
theorem dX4_pass_53 : decode cX4_pass 53 = .ok (.ishl, 1) := by decide +kernel
theorem dX4_pass_54 : decode cX4_pass 54 = .ok (.aload_n 0, 1) := by decide +kernel
theorem dX4_pass_55 : decode cX4_pass 55 = .ok (.getfield 18, 3) := by decide +kernel
theorem dX4_pass_58 : decode cX4_pass 58 = .ok (.iload 6, 2) := by decide +kernel
theorem dX4_pass_60 : decode cX4_pass 60 = .ok (.iaload, 1) := by decide +kernel
theorem dX4_pass_61 : decode cX4_pass 61 = .ok (.iload_n 2, 1) := by decide +kernel
theorem dX4_pass_62 : decode cX4_pass 62 = .ok (.ishr, 1) := by decide +kernel
theorem dX4_pass_63 : decode cX4_pass 63 = .ok (.iconst 1, 1) := by decide +kernel
theorem dX4_pass_64 : decode cX4_pass 64 = .ok (.iand, 1) := by decide +kernel
theorem dX4_pass_65 : decode cX4_pass 65 = .ok (.ior, 1) := by decide +kernel
theorem dX4_pass_66 : decode cX4_pass 66 = .ok (.istore 9, 2) := by decide +kernel
theorem dX4_pass_68 : decode cX4_pass 68 = .ok (.iload 9, 2) := by decide +kernel
theorem dX4_pass_70 : decode cX4_pass 70 = .ok (.invokestatic 46, 3) := by decide +kernel
theorem dX4_pass_73 : decode cX4_pass 73 = .ok (.aload_n 0, 1) := by decide +kernel
theorem dX4_pass_74 : decode cX4_pass 74 = .ok (.getfield 9, 3) := by decide +kernel
theorem dX4_pass_77 : decode cX4_pass 77 = .ok (.iload 6, 2) := by decide +kernel
theorem dX4_pass_79 : decode cX4_pass 79 = .ok (.iaload, 1) := by decide +kernel
theorem dX4_pass_80 : decode cX4_pass 80 = .ok (.if_icmp .lt 10, 3) := by decide +kernel
theorem dX4_pass_83 : decode cX4_pass 83 = .ok (.iload_n 3, 1) := by decide +kernel
theorem dX4_pass_84 : decode cX4_pass 84 = .ok (.iconst 1, 1) := by decide +kernel
theorem dX4_pass_85 : decode cX4_pass 85 = .ok (.iload 6, 2) := by decide +kernel
theorem dX4_pass_87 : decode cX4_pass 87 = .ok (.ishl, 1) := by decide +kernel
theorem dX4_pass_88 : decode cX4_pass 88 = .ok (.ior, 1) := by decide +kernel
theorem dX4_pass_89 : decode cX4_pass 89 = .ok (.istore_n 3, 1) := by decide +kernel
theorem dX4_pass_90 : decode cX4_pass 90 = .ok (.iload 4, 2) := by decide +kernel
theorem dX4_pass_92 : decode cX4_pass 92 = .ok (.iload 9, 2) := by decide +kernel
theorem dX4_pass_94 : decode cX4_pass 94 = .ok (.iload 8, 2) := by decide +kernel
theorem dX4_pass_96 : decode cX4_pass 96 = .ok (.iand, 1) := by decide +kernel
theorem dX4_pass_97 : decode cX4_pass 97 = .ok (.iload 5, 2) := by decide +kernel
theorem dX4_pass_99 : decode cX4_pass 99 = .ok (.ishl, 1) := by decide +kernel
theorem dX4_pass_100 : decode cX4_pass 100 = .ok (.ior, 1) := by decide +kernel
theorem dX4_pass_101 : decode cX4_pass 101 = .ok (.istore 4, 2) := by decide +kernel
theorem dX4_pass_103 : decode cX4_pass 103 = .ok (.iload 5, 2) := by decide +kernel
theorem dX4_pass_105 : decode cX4_pass 105 = .ok (.iload 7, 2) := by decide +kernel
theorem dX4_pass_107 : decode cX4_pass 107 = .ok (.iadd, 1) := by decide +kernel
theorem dX4_pass_108 : decode cX4_pass 108 = .ok (.istore 5, 2) := by decide +kernel
theorem dX4_pass_110 : decode cX4_pass 110 = .ok (.iinc 6 1, 3) := by decide +kernel
theorem dX4_pass_113 : decode cX4_pass 113 = .ok (.goto (-102), 3) := by decide +kernel
theorem dX4_pass_116 : decode cX4_pass 116 = .ok (.iload_n 3, 1) := by decide +kernel
theorem dX4_pass_117 : decode cX4_pass 117 = .ok (.ifCond .eq 7, 3) := by decide +kernel
theorem dX4_pass_120 : decode cX4_pass 120 = .ok (.iload_n 3, 1) := by decide +kernel
theorem dX4_pass_121 : decode cX4_pass 121 = .ok (.goto 7, 3) := by decide +kernel
theorem dX4_pass_124 : decode cX4_pass 124 = .ok (.iload 4, 2) := by decide +kernel
theorem dX4_pass_126 : decode cX4_pass 126 = .ok (.iconst 3, 1) := by decide +kernel
theorem dX4_pass_127 : decode cX4_pass 127 = .ok (.ishl, 1) := by decide +kernel
theorem dX4_pass_128 : decode cX4_pass 128 = .ok (.ireturn, 1) := by decide +kernel
theorem dX5_init_0 : decode cX5_init 0 = .ok (.aload_n 0, 1) := by decide +kernel
theorem dX5_init_1 : decode cX5_init 1 = .ok (.invokespecial 3, 3) := by decide +kernel
theorem dX5_init_4 : decode cX5_init 4 = .ok (.aload_n 0, 1) := by decide +kernel
theorem dX5_init_5 : decode cX5_init 5 = .ok (.new 9, 3) := by decide +kernel
theorem dX5_init_8 : decode cX5_init 8 = .ok (.dup, 1) := by decide +kernel
theorem dX5_init_9 : decode cX5_init 9 = .ok (.invokespecial 11, 3) := by decide +kernel
theorem dX5_init_12 : decode cX5_init 12 = .ok (.putfield 12, 3) := by decide +kernel
theorem dX5_init_15 : decode cX5_init 15 = .ok (.aload_n 0, 1) := by decide +kernel
theorem dX5_init_16 : decode cX5_init 16 = .ok (.new 18, 3) := by decide +kernel
theorem dX5_init_19 : decode cX5_init 19 = .ok (.dup, 1) := by decide +kernel
theorem dX5_init_20 : decode cX5_init 20 = .ok (.invokespecial 20, 3) := by decide +kernel
theorem dX5_init_23 : decode cX5_init 23 = .ok (.putfield 21, 3) := by decide +kernel
theorem dX5_init_26 : decode cX5_init 26 = .ok (.return_, 1) := by decide +kernel
theorem dX5_read_0 : decode cX5_read 0 = .ok (.aload_n 0, 1) := by decide +kernel
theorem dX5_read_1 : decode cX5_read 1 = .ok (.getfield 12, 3) := by decide +kernel
theorem dX5_read_4 : decode cX5_read 4 = .ok (.invokevirtual 25, 3) := by decide +kernel
theorem dX5_read_7 : decode cX5_read 7 = .ok (.aload_n 0, 1) := by decide +kernel
theorem dX5_read_8 : decode cX5_read 8 = .ok (.getfield 21, 3) := by decide +kernel
theorem dX5_read_11 : decode cX5_read 11 = .ok (.invokevirtual 28, 3) := by decide +kernel
theorem dX5_read_14 : decode cX5_read 14 = .ok (.aload_n 0, 1) := by decide +kernel
theorem dX5_read_15 : decode cX5_read 15 = .ok (.iconst (-1), 1) := by decide +kernel
theorem dX5_read_16 : decode cX5_read 16 = .ok (.putfield 31, 3) := by decide +kernel
theorem dX5_read_19 : decode cX5_read 19 = .ok (.aload_n 0, 1) := by decide +kernel
theorem dX5_read_20 : decode cX5_read 20 = .ok (.iconst 0, 1) := by decide +kernel
theorem dX5_read_21 : decode cX5_read 21 = .ok (.putfield 35, 3) := by decide +kernel
theorem dX5_read_24 : decode cX5_read 24 = .ok (.aload_n 0, 1) := by decide +kernel
theorem dX5_read_25 : decode cX5_read 25 = .ok (.iconst 0, 1) := by decide +kernel
theorem dX5_read_26 : decode cX5_read 26 = .ok (.putfield 39, 3) := by decide +kernel
theorem dX5_read_29 : decode cX5_read 29 = .ok (.iconst 0, 1) := by decide +kernel
theorem dX5_read_30 : decode cX5_read 30 = .ok (.istore_n 1, 1) := by decide +kernel
theorem dX5_read_31 : decode cX5_read 31 = .ok (.iload_n 1, 1) := by decide +kernel
theorem dX5_read_32 : decode cX5_read 32 = .ok (.bipush 120, 2) := by decide +kernel
theorem dX5_read_34 : decode cX5_read 34 = .ok (.if_icmp .gt 31, 3) := by decide +kernel
theorem dX5_read_37 : decode cX5_read 37 = .ok (.aload_n 0, 1) := by decide +kernel
theorem dX5_read_38 : decode cX5_read 38 = .ok (.invokevirtual 42, 3) := by decide +kernel
theorem dX5_read_41 : decode cX5_read 41 = .ok (.istore_n 2, 1) := by decide +kernel
theorem dX5_read_42 : decode cX5_read 42 = .ok (.iload_n 2, 1) := by decide +kernel
theorem dX5_read_43 : decode cX5_read 43 = .ok (.ifCond .ne 5, 3) := by decide +kernel
theorem dX5_read_46 : decode cX5_read 46 = .ok (.iload_n 1, 1) := by decide +kernel
theorem dX5_read_47 : decode cX5_read 47 = .ok (.ireturn, 1) := by decide +kernel
theorem dX5_read_48 : decode cX5_read 48 = .ok (.aload_n 0, 1) := by decide +kernel
theorem dX5_read_49 : decode cX5_read 49 = .ok (.iload_n 2, 1) := by decide +kernel
theorem dX5_read_50 : decode cX5_read 50 = .ok (.invokevirtual 46, 3) := by decide +kernel
theorem dX5_read_53 : decode cX5_read 53 = .ok (.ifCond .ne 6, 3) := by decide +kernel
theorem dX5_read_56 : decode cX5_read 56 = .ok (.goto 9, 3) := by decide +kernel
theorem dX5_read_59 : decode cX5_read 59 = .ok (.iinc 1 1, 3) := by decide +kernel
theorem dX5_read_62 : decode cX5_read 62 = .ok (.goto (-31), 3) := by decide +kernel
theorem dX5_read_65 : decode cX5_read 65 = .ok (.bipush (-10), 2) := by decide +kernel
theorem dX5_read_67 : decode cX5_read 67 = .ok (.aload_n 0, 1) := by decide +kernel
theorem dX5_read_68 : decode cX5_read 68 = .ok (.getfield 12, 3) := by decide +kernel
theorem dX5_read_71 : decode cX5_read 71 = .ok (.aload_n 0, 1) := by decide +kernel
theorem dX5_read_72 : decode cX5_read 72 = .ok (.getfield 31, 3) := by decide +kernel
theorem dX5_read_75 : decode cX5_read 75 = .ok (.invokevirtual 50, 3) := by decide +kernel
theorem dX5_read_78 : decode cX5_read 78 = .ok (.isub, 1) := by decide +kernel
theorem dX5_read_79 : decode cX5_read 79 = .ok (.ireturn, 1) := by decide +kernel
theorem dX5_isItem_0 : decode cX5_isItem 0 = .ok (.iload_n 1, 1) := by decide +kernel
theorem dX5_isItem_1 : decode cX5_isItem 1 = .ok (.tableswitch 90 1 3 #[27, 48, 69], 27) := by decide +kernel
theorem dX5_isItem_28 : decode cX5_isItem 28 = .ok (.aload_n 0, 1) := by decide +kernel
theorem dX5_isItem_29 : decode cX5_isItem 29 = .ok (.invokevirtual 54, 3) := by decide +kernel
theorem dX5_isItem_32 : decode cX5_isItem 32 = .ok (.ifCond .eq 15, 3) := by decide +kernel
theorem dX5_isItem_35 : decode cX5_isItem 35 = .ok (.aload_n 0, 1) := by decide +kernel
theorem dX5_isItem_36 : decode cX5_isItem 36 = .ok (.invokevirtual 42, 3) := by decide +kernel
theorem dX5_isItem_39 : decode cX5_isItem 39 = .ok (.iconst 5, 1) := by decide +kernel
theorem dX5_isItem_40 : decode cX5_isItem 40 = .ok (.if_icmp .ne 7, 3) := by decide +kernel
theorem dX5_isItem_43 : decode cX5_isItem 43 = .ok (.iconst 1, 1) := by decide +kernel
theorem dX5_isItem_44 : decode cX5_isItem 44 = .ok (.goto 4, 3) := by decide +kernel
theorem dX5_isItem_47 : decode cX5_isItem 47 = .ok (.iconst 0, 1) := by decide +kernel
theorem dX5_isItem_48 : decode cX5_isItem 48 = .ok (.ireturn, 1) := by decide +kernel
theorem dX5_isItem_49 : decode cX5_isItem 49 = .ok (.aload_n 0, 1) := by decide +kernel
theorem dX5_isItem_50 : decode cX5_isItem 50 = .ok (.invokevirtual 58, 3) := by decide +kernel
theorem dX5_isItem_53 : decode cX5_isItem 53 = .ok (.ifCond .eq 15, 3) := by decide +kernel
theorem dX5_isItem_56 : decode cX5_isItem 56 = .ok (.aload_n 0, 1) := by decide +kernel
theorem dX5_isItem_57 : decode cX5_isItem 57 = .ok (.invokevirtual 42, 3) := by decide +kernel
theorem dX5_isItem_60 : decode cX5_isItem 60 = .ok (.iconst 5, 1) := by decide +kernel
theorem dX5_isItem_61 : decode cX5_isItem 61 = .ok (.if_icmp .ne 7, 3) := by decide +kernel
theorem dX5_isItem_64 : decode cX5_isItem 64 = .ok (.iconst 1, 1) := by decide +kernel
theorem dX5_isItem_65 : decode cX5_isItem 65 = .ok (.goto 4, 3) := by decide +kernel
theorem dX5_isItem_68 : decode cX5_isItem 68 = .ok (.iconst 0, 1) := by decide +kernel
theorem dX5_isItem_69 : decode cX5_isItem 69 = .ok (.ireturn, 1) := by decide +kernel
theorem dX5_isItem_70 : decode cX5_isItem 70 = .ok (.aload_n 0, 1) := by decide +kernel
theorem dX5_isItem_71 : decode cX5_isItem 71 = .ok (.invokevirtual 61, 3) := by decide +kernel
theorem dX5_isItem_74 : decode cX5_isItem 74 = .ok (.ifCond .eq 15, 3) := by decide +kernel
theorem dX5_isItem_77 : decode cX5_isItem 77 = .ok (.aload_n 0, 1) := by decide +kernel
theorem dX5_isItem_78 : decode cX5_isItem 78 = .ok (.invokevirtual 42, 3) := by decide +kernel
theorem dX5_isItem_81 : decode cX5_isItem 81 = .ok (.iconst 5, 1) := by decide +kernel
theorem dX5_isItem_82 : decode cX5_isItem 82 = .ok (.if_icmp .ne 7, 3) := by decide +kernel
theorem dX5_isItem_85 : decode cX5_isItem 85 = .ok (.iconst 1, 1) := by decide +kernel
theorem dX5_isItem_86 : decode cX5_isItem 86 = .ok (.goto 4, 3) := by decide +kernel
theorem dX5_isItem_89 : decode cX5_isItem 89 = .ok (.iconst 0, 1) := by decide +kernel
theorem dX5_isItem_90 : decode cX5_isItem 90 = .ok (.ireturn, 1) := by decide +kernel
theorem dX5_isItem_91 : decode cX5_isItem 91 = .ok (.iconst 0, 1) := by decide +kernel
theorem dX5_isItem_92 : decode cX5_isItem 92 = .ok (.ireturn, 1) := by decide +kernel
theorem dX5_isRule_0 : decode cX5_isRule 0 = .ok (.aload_n 0, 1) := by decide +kernel
theorem dX5_isRule_1 : decode cX5_isRule 1 = .ok (.getfield 21, 3) := by decide +kernel
theorem dX5_isRule_4 : decode cX5_isRule 4 = .ok (.getfield 64, 3) := by decide +kernel
theorem dX5_isRule_7 : decode cX5_isRule 7 = .ok (.iconst 3, 1) := by decide +kernel
theorem dX5_isRule_8 : decode cX5_isRule 8 = .ok (.if_icmp .ge 12, 3) := by decide +kernel
theorem dX5_isRule_11 : decode cX5_isRule 11 = .ok (.aload_n 0, 1) := by decide +kernel
theorem dX5_isRule_12 : decode cX5_isRule 12 = .ok (.iconst 1, 1) := by decide +kernel
theorem dX5_isRule_13 : decode cX5_isRule 13 = .ok (.iconst 4, 1) := by decide +kernel
theorem dX5_isRule_14 : decode cX5_isRule 14 = .ok (.invokevirtual 67, 3) := by decide +kernel
theorem dX5_isRule_17 : decode cX5_isRule 17 = .ok (.ifCond .ne 5, 3) := by decide +kernel
theorem dX5_isRule_20 : decode cX5_isRule 20 = .ok (.iconst 0, 1) := by decide +kernel
theorem dX5_isRule_21 : decode cX5_isRule 21 = .ok (.ireturn, 1) := by decide +kernel
theorem dX5_isRule_22 : decode cX5_isRule 22 = .ok (.aload_n 0, 1) := by decide +kernel
theorem dX5_isRule_23 : decode cX5_isRule 23 = .ok (.getfield 12, 3) := by decide +kernel
theorem dX5_isRule_26 : decode cX5_isRule 26 = .ok (.aload_n 0, 1) := by decide +kernel
theorem dX5_isRule_27 : decode cX5_isRule 27 = .ok (.getfield 31, 3) := by decide +kernel
theorem dX5_isRule_30 : decode cX5_isRule 30 = .ok (.invokevirtual 71, 3) := by decide +kernel
theorem dX5_isRule_33 : decode cX5_isRule 33 = .ok (.istore_n 1, 1) := by decide +kernel
theorem dX5_isRule_34 : decode cX5_isRule 34 = .ok (.bipush 6, 2) := by decide +kernel
theorem dX5_isRule_36 : decode cX5_isRule 36 = .ok (.aload_n 0, 1) := by decide +kernel
theorem dX5_isRule_37 : decode cX5_isRule 37 = .ok (.getfield 21, 3) := by decide +kernel
theorem dX5_isRule_40 : decode cX5_isRule 40 = .ok (.invokevirtual 74, 3) := by decide +kernel
theorem dX5_isRule_43 : decode cX5_isRule 43 = .ok (.isub, 1) := by decide +kernel
theorem dX5_isRule_44 : decode cX5_isRule 44 = .ok (.istore_n 2, 1) := by decide +kernel
theorem dX5_isRule_45 : decode cX5_isRule 45 = .ok (.aload_n 0, 1) := by decide +kernel
theorem dX5_isRule_46 : decode cX5_isRule 46 = .ok (.iload_n 1, 1) := by decide +kernel
theorem dX5_isRule_47 : decode cX5_isRule 47 = .ok (.iconst 4, 1) := by decide +kernel
theorem dX5_isRule_48 : decode cX5_isRule 48 = .ok (.iload_n 2, 1) := by decide +kernel
theorem dX5_isRule_49 : decode cX5_isRule 49 = .ok (.iconst 1, 1) := by decide +kernel
theorem dX5_isRule_50 : decode cX5_isRule 50 = .ok (.iadd, 1) := by decide +kernel
theorem dX5_isRule_51 : decode cX5_isRule 51 = .ok (.invokestatic 77, 3) := by decide +kernel
theorem dX5_isRule_54 : decode cX5_isRule 54 = .ok (.invokevirtual 67, 3) := by decide +kernel
theorem dX5_isRule_57 : decode cX5_isRule 57 = .ok (.ifCond .ne 5, 3) := by decide +kernel
theorem dX5_isRule_60 : decode cX5_isRule 60 = .ok (.iconst 0, 1) := by decide +kernel
theorem dX5_isRule_61 : decode cX5_isRule 61 = .ok (.ireturn, 1) := by decide +kernel
theorem dX5_isRule_62 : decode cX5_isRule 62 = .ok (.aload_n 0, 1) := by decide +kernel
theorem dX5_isRule_63 : decode cX5_isRule 63 = .ok (.getfield 12, 3) := by decide +kernel
theorem dX5_isRule_66 : decode cX5_isRule 66 = .ok (.aload_n 0, 1) := by decide +kernel
theorem dX5_isRule_67 : decode cX5_isRule 67 = .ok (.getfield 31, 3) := by decide +kernel
theorem dX5_isRule_70 : decode cX5_isRule 70 = .ok (.invokevirtual 71, 3) := by decide +kernel
theorem dX5_isRule_73 : decode cX5_isRule 73 = .ok (.istore_n 3, 1) := by decide +kernel
theorem dX5_isRule_74 : decode cX5_isRule 74 = .ok (.aload_n 0, 1) := by decide +kernel
theorem dX5_isRule_75 : decode cX5_isRule 75 = .ok (.iconst 1, 1) := by decide +kernel
theorem dX5_isRule_76 : decode cX5_isRule 76 = .ok (.bipush 31, 2) := by decide +kernel
theorem dX5_isRule_78 : decode cX5_isRule 78 = .ok (.invokevirtual 67, 3) := by decide +kernel
theorem dX5_isRule_81 : decode cX5_isRule 81 = .ok (.ifCond .ne 5, 3) := by decide +kernel
theorem dX5_isRule_84 : decode cX5_isRule 84 = .ok (.iconst 0, 1) := by decide +kernel
theorem dX5_isRule_85 : decode cX5_isRule 85 = .ok (.ireturn, 1) := by decide +kernel
theorem dX5_isRule_86 : decode cX5_isRule 86 = .ok (.aload_n 0, 1) := by decide +kernel
theorem dX5_isRule_87 : decode cX5_isRule 87 = .ok (.getfield 21, 3) := by decide +kernel
theorem dX5_isRule_90 : decode cX5_isRule 90 = .ok (.iload_n 1, 1) := by decide +kernel
theorem dX5_isRule_91 : decode cX5_isRule 91 = .ok (.iload_n 3, 1) := by decide +kernel
theorem dX5_isRule_92 : decode cX5_isRule 92 = .ok (.aload_n 0, 1) := by decide +kernel
theorem dX5_isRule_93 : decode cX5_isRule 93 = .ok (.getfield 12, 3) := by decide +kernel
theorem dX5_isRule_96 : decode cX5_isRule 96 = .ok (.aload_n 0, 1) := by decide +kernel
theorem dX5_isRule_97 : decode cX5_isRule 97 = .ok (.getfield 31, 3) := by decide +kernel
theorem dX5_isRule_100 : decode cX5_isRule 100 = .ok (.invokevirtual 71, 3) := by decide +kernel
theorem dX5_isRule_103 : decode cX5_isRule 103 = .ok (.invokevirtual 83, 3) := by decide +kernel
theorem dX5_isRule_106 : decode cX5_isRule 106 = .ok (.iconst 1, 1) := by decide +kernel
theorem dX5_isRule_107 : decode cX5_isRule 107 = .ok (.ireturn, 1) := by decide +kernel
theorem dX5_areChances_0 : decode cX5_areChances 0 = .ok (.aload_n 0, 1) := by decide +kernel
theorem dX5_areChances_1 : decode cX5_areChances 1 = .ok (.getfield 35, 3) := by decide +kernel
theorem dX5_areChances_4 : decode cX5_areChances 4 = .ok (.ifCond .eq 5, 3) := by decide +kernel
theorem dX5_areChances_7 : decode cX5_areChances 7 = .ok (.iconst 0, 1) := by decide +kernel
theorem dX5_areChances_8 : decode cX5_areChances 8 = .ok (.ireturn, 1) := by decide +kernel
theorem dX5_areChances_9 : decode cX5_areChances 9 = .ok (.aload_n 0, 1) := by decide +kernel
theorem dX5_areChances_10 : decode cX5_areChances 10 = .ok (.iconst 1, 1) := by decide +kernel
theorem dX5_areChances_11 : decode cX5_areChances 11 = .ok (.putfield 35, 3) := by decide +kernel
theorem dX5_areChances_14 : decode cX5_areChances 14 = .ok (.bipush 10, 2) := by decide +kernel
theorem dX5_areChances_16 : decode cX5_areChances 16 = .ok (.istore_n 1, 1) := by decide +kernel
theorem dX5_areChances_17 : decode cX5_areChances 17 = .ok (.iconst 0, 1) := by decide +kernel
theorem dX5_areChances_18 : decode cX5_areChances 18 = .ok (.istore_n 2, 1) := by decide +kernel
theorem dX5_areChances_19 : decode cX5_areChances 19 = .ok (.iload_n 2, 1) := by decide +kernel
theorem dX5_areChances_20 : decode cX5_areChances 20 = .ok (.iconst 5, 1) := by decide +kernel
theorem dX5_areChances_21 : decode cX5_areChances 21 = .ok (.if_icmp .ge 53, 3) := by decide +kernel
theorem dX5_areChances_24 : decode cX5_areChances 24 = .ok (.aload_n 0, 1) := by decide +kernel
theorem dX5_areChances_25 : decode cX5_areChances 25 = .ok (.iconst 0, 1) := by decide +kernel
theorem dX5_areChances_26 : decode cX5_areChances 26 = .ok (.bipush 10, 2) := by decide +kernel
theorem dX5_areChances_28 : decode cX5_areChances 28 = .ok (.invokevirtual 67, 3) := by decide +kernel
theorem dX5_areChances_31 : decode cX5_areChances 31 = .ok (.ifCond .ne 5, 3) := by decide +kernel
theorem dX5_areChances_34 : decode cX5_areChances 34 = .ok (.iconst 0, 1) := by decide +kernel
theorem dX5_areChances_35 : decode cX5_areChances 35 = .ok (.ireturn, 1) := by decide +kernel
theorem dX5_areChances_36 : decode cX5_areChances 36 = .ok (.aload_n 0, 1) := by decide +kernel
theorem dX5_areChances_37 : decode cX5_areChances 37 = .ok (.getfield 21, 3) := by decide +kernel
theorem dX5_areChances_40 : decode cX5_areChances 40 = .ok (.getfield 87, 3) := by decide +kernel
theorem dX5_areChances_43 : decode cX5_areChances 43 = .ok (.iload_n 2, 1) := by decide +kernel
theorem dX5_areChances_44 : decode cX5_areChances 44 = .ok (.aload_n 0, 1) := by decide +kernel
theorem dX5_areChances_45 : decode cX5_areChances 45 = .ok (.getfield 12, 3) := by decide +kernel
theorem dX5_areChances_48 : decode cX5_areChances 48 = .ok (.aload_n 0, 1) := by decide +kernel
theorem dX5_areChances_49 : decode cX5_areChances 49 = .ok (.getfield 31, 3) := by decide +kernel
theorem dX5_areChances_52 : decode cX5_areChances 52 = .ok (.invokevirtual 71, 3) := by decide +kernel
theorem dX5_areChances_55 : decode cX5_areChances 55 = .ok (.iastore, 1) := by decide +kernel
theorem dX5_areChances_56 : decode cX5_areChances 56 = .ok (.iload_n 1, 1) := by decide +kernel
theorem dX5_areChances_57 : decode cX5_areChances 57 = .ok (.aload_n 0, 1) := by decide +kernel
theorem dX5_areChances_58 : decode cX5_areChances 58 = .ok (.getfield 21, 3) := by decide +kernel
theorem dX5_areChances_61 : decode cX5_areChances 61 = .ok (.getfield 87, 3) := by decide +kernel
theorem dX5_areChances_64 : decode cX5_areChances 64 = .ok (.iload_n 2, 1) := by decide +kernel
theorem dX5_areChances_65 : decode cX5_areChances 65 = .ok (.iaload, 1) := by decide +kernel
theorem dX5_areChances_66 : decode cX5_areChances 66 = .ok (.isub, 1) := by decide +kernel
theorem dX5_areChances_67 : decode cX5_areChances 67 = .ok (.istore_n 1, 1) := by decide +kernel
theorem dX5_areChances_68 : decode cX5_areChances 68 = .ok (.iinc 2 1, 3) := by decide +kernel
theorem dX5_areChances_71 : decode cX5_areChances 71 = .ok (.goto (-52), 3) := by decide +kernel
theorem dX5_areChances_74 : decode cX5_areChances 74 = .ok (.iload_n 1, 1) := by decide +kernel
theorem dX5_areChances_75 : decode cX5_areChances 75 = .ok (.ifCond .ne 7, 3) := by decide +kernel
theorem dX5_areChances_78 : decode cX5_areChances 78 = .ok (.iconst 1, 1) := by decide +kernel
theorem dX5_areChances_79 : decode cX5_areChances 79 = .ok (.goto 4, 3) := by decide +kernel
theorem dX5_areChances_82 : decode cX5_areChances 82 = .ok (.iconst 0, 1) := by decide +kernel
theorem dX5_areChances_83 : decode cX5_areChances 83 = .ok (.ireturn, 1) := by decide +kernel
theorem dX5_areSums_0 : decode cX5_areSums 0 = .ok (.aload_n 0, 1) := by decide +kernel
theorem dX5_areSums_1 : decode cX5_areSums 1 = .ok (.getfield 39, 3) := by decide +kernel
theorem dX5_areSums_4 : decode cX5_areSums 4 = .ok (.ifCond .eq 5, 3) := by decide +kernel
theorem dX5_areSums_7 : decode cX5_areSums 7 = .ok (.iconst 0, 1) := by decide +kernel
theorem dX5_areSums_8 : decode cX5_areSums 8 = .ok (.ireturn, 1) := by decide +kernel
theorem dX5_areSums_9 : decode cX5_areSums 9 = .ok (.aload_n 0, 1) := by decide +kernel
theorem dX5_areSums_10 : decode cX5_areSums 10 = .ok (.iconst 1, 1) := by decide +kernel
theorem dX5_areSums_11 : decode cX5_areSums 11 = .ok (.putfield 39, 3) := by decide +kernel
theorem dX5_areSums_14 : decode cX5_areSums 14 = .ok (.aload_n 0, 1) := by decide +kernel
theorem dX5_areSums_15 : decode cX5_areSums 15 = .ok (.iconst 0, 1) := by decide +kernel
theorem dX5_areSums_16 : decode cX5_areSums 16 = .ok (.iconst 2, 1) := by decide +kernel
theorem dX5_areSums_17 : decode cX5_areSums 17 = .ok (.invokevirtual 67, 3) := by decide +kernel
theorem dX5_areSums_20 : decode cX5_areSums 20 = .ok (.ifCond .ne 5, 3) := by decide +kernel
theorem dX5_areSums_23 : decode cX5_areSums 23 = .ok (.iconst 0, 1) := by decide +kernel
theorem dX5_areSums_24 : decode cX5_areSums 24 = .ok (.ireturn, 1) := by decide +kernel
theorem dX5_areSums_25 : decode cX5_areSums 25 = .ok (.aload_n 0, 1) := by decide +kernel
theorem dX5_areSums_26 : decode cX5_areSums 26 = .ok (.getfield 21, 3) := by decide +kernel
theorem dX5_areSums_29 : decode cX5_areSums 29 = .ok (.aload_n 0, 1) := by decide +kernel
theorem dX5_areSums_30 : decode cX5_areSums 30 = .ok (.getfield 12, 3) := by decide +kernel
theorem dX5_areSums_33 : decode cX5_areSums 33 = .ok (.aload_n 0, 1) := by decide +kernel
theorem dX5_areSums_34 : decode cX5_areSums 34 = .ok (.getfield 31, 3) := by decide +kernel
theorem dX5_areSums_37 : decode cX5_areSums 37 = .ok (.invokevirtual 71, 3) := by decide +kernel
theorem dX5_areSums_40 : decode cX5_areSums 40 = .ok (.putfield 91, 3) := by decide +kernel
theorem dX5_areSums_43 : decode cX5_areSums 43 = .ok (.aload_n 0, 1) := by decide +kernel
theorem dX5_areSums_44 : decode cX5_areSums 44 = .ok (.iconst 1, 1) := by decide +kernel
theorem dX5_areSums_45 : decode cX5_areSums 45 = .ok (.bipush 9, 2) := by decide +kernel
theorem dX5_areSums_47 : decode cX5_areSums 47 = .ok (.invokevirtual 67, 3) := by decide +kernel
theorem dX5_areSums_50 : decode cX5_areSums 50 = .ok (.ifCond .ne 5, 3) := by decide +kernel
theorem dX5_areSums_53 : decode cX5_areSums 53 = .ok (.iconst 0, 1) := by decide +kernel
theorem dX5_areSums_54 : decode cX5_areSums 54 = .ok (.ireturn, 1) := by decide +kernel
theorem dX5_areSums_55 : decode cX5_areSums 55 = .ok (.aload_n 0, 1) := by decide +kernel
theorem dX5_areSums_56 : decode cX5_areSums 56 = .ok (.getfield 21, 3) := by decide +kernel
theorem dX5_areSums_59 : decode cX5_areSums 59 = .ok (.aload_n 0, 1) := by decide +kernel
theorem dX5_areSums_60 : decode cX5_areSums 60 = .ok (.getfield 12, 3) := by decide +kernel
theorem dX5_areSums_63 : decode cX5_areSums 63 = .ok (.aload_n 0, 1) := by decide +kernel
theorem dX5_areSums_64 : decode cX5_areSums 64 = .ok (.getfield 31, 3) := by decide +kernel
theorem dX5_areSums_67 : decode cX5_areSums 67 = .ok (.invokevirtual 71, 3) := by decide +kernel
theorem dX5_areSums_70 : decode cX5_areSums 70 = .ok (.putfield 94, 3) := by decide +kernel
theorem dX5_areSums_73 : decode cX5_areSums 73 = .ok (.iconst 1, 1) := by decide +kernel
theorem dX5_areSums_74 : decode cX5_areSums 74 = .ok (.ireturn, 1) := by decide +kernel
theorem dX5_isNumber_0 : decode cX5_isNumber 0 = .ok (.aload_n 0, 1) := by decide +kernel
theorem dX5_isNumber_1 : decode cX5_isNumber 1 = .ok (.invokevirtual 42, 3) := by decide +kernel
theorem dX5_isNumber_4 : decode cX5_isNumber 4 = .ok (.istore_n 3, 1) := by decide +kernel
theorem dX5_isNumber_5 : decode cX5_isNumber 5 = .ok (.aload_n 0, 1) := by decide +kernel
theorem dX5_isNumber_6 : decode cX5_isNumber 6 = .ok (.getfield 12, 3) := by decide +kernel
theorem dX5_isNumber_9 : decode cX5_isNumber 9 = .ok (.aload_n 0, 1) := by decide +kernel
theorem dX5_isNumber_10 : decode cX5_isNumber 10 = .ok (.getfield 31, 3) := by decide +kernel
theorem dX5_isNumber_13 : decode cX5_isNumber 13 = .ok (.invokevirtual 71, 3) := by decide +kernel
theorem dX5_isNumber_16 : decode cX5_isNumber 16 = .ok (.istore 4, 2) := by decide +kernel
theorem dX5_isNumber_18 : decode cX5_isNumber 18 = .ok (.iload_n 3, 1) := by decide +kernel
theorem dX5_isNumber_19 : decode cX5_isNumber 19 = .ok (.iconst 4, 1) := by decide +kernel
theorem dX5_isNumber_20 : decode cX5_isNumber 20 = .ok (.if_icmp .ne 19, 3) := by decide +kernel
theorem dX5_isNumber_23 : decode cX5_isNumber 23 = .ok (.iload 4, 2) := by decide +kernel
theorem dX5_isNumber_25 : decode cX5_isNumber 25 = .ok (.iload_n 1, 1) := by decide +kernel
theorem dX5_isNumber_26 : decode cX5_isNumber 26 = .ok (.if_icmp .lt 13, 3) := by decide +kernel
theorem dX5_isNumber_29 : decode cX5_isNumber 29 = .ok (.iload 4, 2) := by decide +kernel
theorem dX5_isNumber_31 : decode cX5_isNumber 31 = .ok (.iload_n 2, 1) := by decide +kernel
theorem dX5_isNumber_32 : decode cX5_isNumber 32 = .ok (.if_icmp .gt 7, 3) := by decide +kernel
theorem dX5_isNumber_35 : decode cX5_isNumber 35 = .ok (.iconst 1, 1) := by decide +kernel
theorem dX5_isNumber_36 : decode cX5_isNumber 36 = .ok (.goto 4, 3) := by decide +kernel
theorem dX5_isNumber_39 : decode cX5_isNumber 39 = .ok (.iconst 0, 1) := by decide +kernel
theorem dX5_isNumber_40 : decode cX5_isNumber 40 = .ok (.ireturn, 1) := by decide +kernel
theorem dX5_nextKind_0 : decode cX5_nextKind 0 = .ok (.aload_n 0, 1) := by decide +kernel
theorem dX5_nextKind_1 : decode cX5_nextKind 1 = .ok (.dup, 1) := by decide +kernel
theorem dX5_nextKind_2 : decode cX5_nextKind 2 = .ok (.getfield 31, 3) := by decide +kernel
theorem dX5_nextKind_5 : decode cX5_nextKind 5 = .ok (.iconst 1, 1) := by decide +kernel
theorem dX5_nextKind_6 : decode cX5_nextKind 6 = .ok (.iadd, 1) := by decide +kernel
theorem dX5_nextKind_7 : decode cX5_nextKind 7 = .ok (.putfield 31, 3) := by decide +kernel
theorem dX5_nextKind_10 : decode cX5_nextKind 10 = .ok (.aload_n 0, 1) := by decide +kernel
theorem dX5_nextKind_11 : decode cX5_nextKind 11 = .ok (.getfield 12, 3) := by decide +kernel
theorem dX5_nextKind_14 : decode cX5_nextKind 14 = .ok (.aload_n 0, 1) := by decide +kernel
theorem dX5_nextKind_15 : decode cX5_nextKind 15 = .ok (.getfield 31, 3) := by decide +kernel
theorem dX5_nextKind_18 : decode cX5_nextKind 18 = .ok (.invokevirtual 97, 3) := by decide +kernel
theorem dX5_nextKind_21 : decode cX5_nextKind 21 = .ok (.ireturn, 1) := by decide +kernel
theorem dX6_init_0 : decode cX6_init 0 = .ok (.aload_n 0, 1) := by decide +kernel
theorem dX6_init_1 : decode cX6_init 1 = .ok (.invokespecial 3, 3) := by decide +kernel
theorem dX6_init_4 : decode cX6_init 4 = .ok (.aload_n 0, 1) := by decide +kernel
theorem dX6_init_5 : decode cX6_init 5 = .ok (.iconst 0, 1) := by decide +kernel
theorem dX6_init_6 : decode cX6_init 6 = .ok (.putfield 9, 3) := by decide +kernel
theorem dX6_init_9 : decode cX6_init 9 = .ok (.aload_n 0, 1) := by decide +kernel
theorem dX6_init_10 : decode cX6_init 10 = .ok (.bipush 40, 2) := by decide +kernel
theorem dX6_init_12 : decode cX6_init 12 = .ok (.newarray .int, 2) := by decide +kernel
theorem dX6_init_14 : decode cX6_init 14 = .ok (.putfield 15, 3) := by decide +kernel
theorem dX6_init_17 : decode cX6_init 17 = .ok (.aload_n 0, 1) := by decide +kernel
theorem dX6_init_18 : decode cX6_init 18 = .ok (.bipush 40, 2) := by decide +kernel
theorem dX6_init_20 : decode cX6_init 20 = .ok (.newarray .int, 2) := by decide +kernel
theorem dX6_init_22 : decode cX6_init 22 = .ok (.putfield 19, 3) := by decide +kernel
theorem dX6_init_25 : decode cX6_init 25 = .ok (.return_, 1) := by decide +kernel
theorem dX6_placeOf_0 : decode cX6_placeOf 0 = .ok (.iconst 0, 1) := by decide +kernel
theorem dX6_placeOf_1 : decode cX6_placeOf 1 = .ok (.istore_n 2, 1) := by decide +kernel
theorem dX6_placeOf_2 : decode cX6_placeOf 2 = .ok (.iload_n 2, 1) := by decide +kernel
theorem dX6_placeOf_3 : decode cX6_placeOf 3 = .ok (.aload_n 0, 1) := by decide +kernel
theorem dX6_placeOf_4 : decode cX6_placeOf 4 = .ok (.getfield 9, 3) := by decide +kernel
theorem dX6_placeOf_7 : decode cX6_placeOf 7 = .ok (.if_icmp .ge 25, 3) := by decide +kernel
theorem dX6_placeOf_10 : decode cX6_placeOf 10 = .ok (.iload_n 2, 1) := by decide +kernel
theorem dX6_placeOf_11 : decode cX6_placeOf 11 = .ok (.bipush 40, 2) := by decide +kernel
theorem dX6_placeOf_13 : decode cX6_placeOf 13 = .ok (.if_icmp .ge 19, 3) := by decide +kernel
theorem dX6_placeOf_16 : decode cX6_placeOf 16 = .ok (.aload_n 0, 1) := by decide +kernel
theorem dX6_placeOf_17 : decode cX6_placeOf 17 = .ok (.getfield 15, 3) := by decide +kernel
theorem dX6_placeOf_20 : decode cX6_placeOf 20 = .ok (.iload_n 2, 1) := by decide +kernel
theorem dX6_placeOf_21 : decode cX6_placeOf 21 = .ok (.iaload, 1) := by decide +kernel
theorem dX6_placeOf_22 : decode cX6_placeOf 22 = .ok (.iload_n 1, 1) := by decide +kernel
theorem dX6_placeOf_23 : decode cX6_placeOf 23 = .ok (.if_icmp .ge 9, 3) := by decide +kernel
theorem dX6_placeOf_26 : decode cX6_placeOf 26 = .ok (.iinc 2 1, 3) := by decide +kernel
theorem dX6_placeOf_29 : decode cX6_placeOf 29 = .ok (.goto (-27), 3) := by decide +kernel
theorem dX6_placeOf_32 : decode cX6_placeOf 32 = .ok (.iload_n 2, 1) := by decide +kernel
theorem dX6_placeOf_33 : decode cX6_placeOf 33 = .ok (.ireturn, 1) := by decide +kernel
theorem dX6_putIn_0 : decode cX6_putIn 0 = .ok (.aload_n 0, 1) := by decide +kernel
theorem dX6_putIn_1 : decode cX6_putIn 1 = .ok (.getfield 9, 3) := by decide +kernel
theorem dX6_putIn_4 : decode cX6_putIn 4 = .ok (.bipush 40, 2) := by decide +kernel
theorem dX6_putIn_6 : decode cX6_putIn 6 = .ok (.if_icmp .ge 15, 3) := by decide +kernel
theorem dX6_putIn_9 : decode cX6_putIn 9 = .ok (.iload_n 1, 1) := by decide +kernel
theorem dX6_putIn_10 : decode cX6_putIn 10 = .ok (.ifCond .lt 11, 3) := by decide +kernel
theorem dX6_putIn_13 : decode cX6_putIn 13 = .ok (.iload_n 1, 1) := by decide +kernel
theorem dX6_putIn_14 : decode cX6_putIn 14 = .ok (.aload_n 0, 1) := by decide +kernel
theorem dX6_putIn_15 : decode cX6_putIn 15 = .ok (.getfield 9, 3) := by decide +kernel
theorem dX6_putIn_18 : decode cX6_putIn 18 = .ok (.if_icmp .le 4, 3) := by decide +kernel
theorem dX6_putIn_21 : decode cX6_putIn 21 = .ok (.return_, 1) := by decide +kernel
theorem dX6_putIn_22 : decode cX6_putIn 22 = .ok (.aload_n 0, 1) := by decide +kernel
theorem dX6_putIn_23 : decode cX6_putIn 23 = .ok (.getfield 9, 3) := by decide +kernel
theorem dX6_putIn_26 : decode cX6_putIn 26 = .ok (.istore 4, 2) := by decide +kernel
theorem dX6_putIn_28 : decode cX6_putIn 28 = .ok (.iload 4, 2) := by decide +kernel
theorem dX6_putIn_30 : decode cX6_putIn 30 = .ok (.iload_n 1, 1) := by decide +kernel
theorem dX6_putIn_31 : decode cX6_putIn 31 = .ok (.if_icmp .le 41, 3) := by decide +kernel
theorem dX6_putIn_34 : decode cX6_putIn 34 = .ok (.aload_n 0, 1) := by decide +kernel
theorem dX6_putIn_35 : decode cX6_putIn 35 = .ok (.getfield 15, 3) := by decide +kernel
theorem dX6_putIn_38 : decode cX6_putIn 38 = .ok (.iload 4, 2) := by decide +kernel
theorem dX6_putIn_40 : decode cX6_putIn 40 = .ok (.aload_n 0, 1) := by decide +kernel
theorem dX6_putIn_41 : decode cX6_putIn 41 = .ok (.getfield 15, 3) := by decide +kernel
theorem dX6_putIn_44 : decode cX6_putIn 44 = .ok (.iload 4, 2) := by decide +kernel
theorem dX6_putIn_46 : decode cX6_putIn 46 = .ok (.iconst 1, 1) := by decide +kernel
theorem dX6_putIn_47 : decode cX6_putIn 47 = .ok (.isub, 1) := by decide +kernel
theorem dX6_putIn_48 : decode cX6_putIn 48 = .ok (.iaload, 1) := by decide +kernel
theorem dX6_putIn_49 : decode cX6_putIn 49 = .ok (.iastore, 1) := by decide +kernel
theorem dX6_putIn_50 : decode cX6_putIn 50 = .ok (.aload_n 0, 1) := by decide +kernel
theorem dX6_putIn_51 : decode cX6_putIn 51 = .ok (.getfield 19, 3) := by decide +kernel
theorem dX6_putIn_54 : decode cX6_putIn 54 = .ok (.iload 4, 2) := by decide +kernel
theorem dX6_putIn_56 : decode cX6_putIn 56 = .ok (.aload_n 0, 1) := by decide +kernel
theorem dX6_putIn_57 : decode cX6_putIn 57 = .ok (.getfield 19, 3) := by decide +kernel
theorem dX6_putIn_60 : decode cX6_putIn 60 = .ok (.iload 4, 2) := by decide +kernel
theorem dX6_putIn_62 : decode cX6_putIn 62 = .ok (.iconst 1, 1) := by decide +kernel
theorem dX6_putIn_63 : decode cX6_putIn 63 = .ok (.isub, 1) := by decide +kernel
theorem dX6_putIn_64 : decode cX6_putIn 64 = .ok (.iaload, 1) := by decide +kernel
theorem dX6_putIn_65 : decode cX6_putIn 65 = .ok (.iastore, 1) := by decide +kernel
theorem dX6_putIn_66 : decode cX6_putIn 66 = .ok (.iinc 4 (-1), 3) := by decide +kernel
theorem dX6_putIn_69 : decode cX6_putIn 69 = .ok (.goto (-41), 3) := by decide +kernel
theorem dX6_putIn_72 : decode cX6_putIn 72 = .ok (.aload_n 0, 1) := by decide +kernel
theorem dX6_putIn_73 : decode cX6_putIn 73 = .ok (.getfield 15, 3) := by decide +kernel
theorem dX6_putIn_76 : decode cX6_putIn 76 = .ok (.iload_n 1, 1) := by decide +kernel
theorem dX6_putIn_77 : decode cX6_putIn 77 = .ok (.iload_n 2, 1) := by decide +kernel
theorem dX6_putIn_78 : decode cX6_putIn 78 = .ok (.iastore, 1) := by decide +kernel
theorem dX6_putIn_79 : decode cX6_putIn 79 = .ok (.aload_n 0, 1) := by decide +kernel
theorem dX6_putIn_80 : decode cX6_putIn 80 = .ok (.getfield 19, 3) := by decide +kernel
theorem dX6_putIn_83 : decode cX6_putIn 83 = .ok (.iload_n 1, 1) := by decide +kernel
theorem dX6_putIn_84 : decode cX6_putIn 84 = .ok (.iload_n 3, 1) := by decide +kernel
theorem dX6_putIn_85 : decode cX6_putIn 85 = .ok (.iastore, 1) := by decide +kernel
theorem dX6_putIn_86 : decode cX6_putIn 86 = .ok (.aload_n 0, 1) := by decide +kernel
theorem dX6_putIn_87 : decode cX6_putIn 87 = .ok (.dup, 1) := by decide +kernel
theorem dX6_putIn_88 : decode cX6_putIn 88 = .ok (.getfield 9, 3) := by decide +kernel
theorem dX6_putIn_91 : decode cX6_putIn 91 = .ok (.iconst 1, 1) := by decide +kernel
theorem dX6_putIn_92 : decode cX6_putIn 92 = .ok (.iadd, 1) := by decide +kernel
theorem dX6_putIn_93 : decode cX6_putIn 93 = .ok (.putfield 9, 3) := by decide +kernel
theorem dX6_putIn_96 : decode cX6_putIn 96 = .ok (.return_, 1) := by decide +kernel
theorem dX6_takeOut_0 : decode cX6_takeOut 0 = .ok (.iload_n 1, 1) := by decide +kernel
theorem dX6_takeOut_1 : decode cX6_takeOut 1 = .ok (.ifCond .lt 11, 3) := by decide +kernel
theorem dX6_takeOut_4 : decode cX6_takeOut 4 = .ok (.iload_n 1, 1) := by decide +kernel
theorem dX6_takeOut_5 : decode cX6_takeOut 5 = .ok (.aload_n 0, 1) := by decide +kernel
theorem dX6_takeOut_6 : decode cX6_takeOut 6 = .ok (.getfield 9, 3) := by decide +kernel
theorem dX6_takeOut_9 : decode cX6_takeOut 9 = .ok (.if_icmp .lt 4, 3) := by decide +kernel
theorem dX6_takeOut_12 : decode cX6_takeOut 12 = .ok (.return_, 1) := by decide +kernel
theorem dX6_takeOut_13 : decode cX6_takeOut 13 = .ok (.aload_n 0, 1) := by decide +kernel
theorem dX6_takeOut_14 : decode cX6_takeOut 14 = .ok (.dup, 1) := by decide +kernel
theorem dX6_takeOut_15 : decode cX6_takeOut 15 = .ok (.getfield 9, 3) := by decide +kernel
theorem dX6_takeOut_18 : decode cX6_takeOut 18 = .ok (.iconst 1, 1) := by decide +kernel
theorem dX6_takeOut_19 : decode cX6_takeOut 19 = .ok (.isub, 1) := by decide +kernel
theorem dX6_takeOut_20 : decode cX6_takeOut 20 = .ok (.putfield 9, 3) := by decide +kernel
theorem dX6_takeOut_23 : decode cX6_takeOut 23 = .ok (.iload_n 1, 1) := by decide +kernel
theorem dX6_takeOut_24 : decode cX6_takeOut 24 = .ok (.istore_n 2, 1) := by decide +kernel
theorem dX6_takeOut_25 : decode cX6_takeOut 25 = .ok (.iload_n 2, 1) := by decide +kernel
theorem dX6_takeOut_26 : decode cX6_takeOut 26 = .ok (.aload_n 0, 1) := by decide +kernel
theorem dX6_takeOut_27 : decode cX6_takeOut 27 = .ok (.getfield 9, 3) := by decide +kernel
theorem dX6_takeOut_30 : decode cX6_takeOut 30 = .ok (.if_icmp .ge 45, 3) := by decide +kernel
theorem dX6_takeOut_33 : decode cX6_takeOut 33 = .ok (.iload_n 2, 1) := by decide +kernel
theorem dX6_takeOut_34 : decode cX6_takeOut 34 = .ok (.iconst 1, 1) := by decide +kernel
theorem dX6_takeOut_35 : decode cX6_takeOut 35 = .ok (.iadd, 1) := by decide +kernel
theorem dX6_takeOut_36 : decode cX6_takeOut 36 = .ok (.bipush 40, 2) := by decide +kernel
theorem dX6_takeOut_38 : decode cX6_takeOut 38 = .ok (.if_icmp .ge 37, 3) := by decide +kernel
theorem dX6_takeOut_41 : decode cX6_takeOut 41 = .ok (.aload_n 0, 1) := by decide +kernel
theorem dX6_takeOut_42 : decode cX6_takeOut 42 = .ok (.getfield 15, 3) := by decide +kernel
theorem dX6_takeOut_45 : decode cX6_takeOut 45 = .ok (.iload_n 2, 1) := by decide +kernel
theorem dX6_takeOut_46 : decode cX6_takeOut 46 = .ok (.aload_n 0, 1) := by decide +kernel
theorem dX6_takeOut_47 : decode cX6_takeOut 47 = .ok (.getfield 15, 3) := by decide +kernel
theorem dX6_takeOut_50 : decode cX6_takeOut 50 = .ok (.iload_n 2, 1) := by decide +kernel
theorem dX6_takeOut_51 : decode cX6_takeOut 51 = .ok (.iconst 1, 1) := by decide +kernel
theorem dX6_takeOut_52 : decode cX6_takeOut 52 = .ok (.iadd, 1) := by decide +kernel
theorem dX6_takeOut_53 : decode cX6_takeOut 53 = .ok (.iaload, 1) := by decide +kernel
theorem dX6_takeOut_54 : decode cX6_takeOut 54 = .ok (.iastore, 1) := by decide +kernel
theorem dX6_takeOut_55 : decode cX6_takeOut 55 = .ok (.aload_n 0, 1) := by decide +kernel
theorem dX6_takeOut_56 : decode cX6_takeOut 56 = .ok (.getfield 19, 3) := by decide +kernel
theorem dX6_takeOut_59 : decode cX6_takeOut 59 = .ok (.iload_n 2, 1) := by decide +kernel
theorem dX6_takeOut_60 : decode cX6_takeOut 60 = .ok (.aload_n 0, 1) := by decide +kernel
theorem dX6_takeOut_61 : decode cX6_takeOut 61 = .ok (.getfield 19, 3) := by decide +kernel
theorem dX6_takeOut_64 : decode cX6_takeOut 64 = .ok (.iload_n 2, 1) := by decide +kernel
theorem dX6_takeOut_65 : decode cX6_takeOut 65 = .ok (.iconst 1, 1) := by decide +kernel
theorem dX6_takeOut_66 : decode cX6_takeOut 66 = .ok (.iadd, 1) := by decide +kernel
theorem dX6_takeOut_67 : decode cX6_takeOut 67 = .ok (.iaload, 1) := by decide +kernel
theorem dX6_takeOut_68 : decode cX6_takeOut 68 = .ok (.iastore, 1) := by decide +kernel
theorem dX6_takeOut_69 : decode cX6_takeOut 69 = .ok (.iinc 2 1, 3) := by decide +kernel
theorem dX6_takeOut_72 : decode cX6_takeOut 72 = .ok (.goto (-47), 3) := by decide +kernel
theorem dX6_takeOut_75 : decode cX6_takeOut 75 = .ok (.return_, 1) := by decide +kernel
theorem dX6_take_0 : decode cX6_take 0 = .ok (.aload_n 0, 1) := by decide +kernel
theorem dX6_take_1 : decode cX6_take 1 = .ok (.aload_n 1, 1) := by decide +kernel
theorem dX6_take_2 : decode cX6_take 2 = .ok (.getfield 9, 3) := by decide +kernel
theorem dX6_take_5 : decode cX6_take 5 = .ok (.putfield 9, 3) := by decide +kernel
theorem dX6_take_8 : decode cX6_take 8 = .ok (.aload_n 1, 1) := by decide +kernel
theorem dX6_take_9 : decode cX6_take 9 = .ok (.getfield 15, 3) := by decide +kernel
theorem dX6_take_12 : decode cX6_take 12 = .ok (.iconst 0, 1) := by decide +kernel
theorem dX6_take_13 : decode cX6_take 13 = .ok (.aload_n 0, 1) := by decide +kernel
theorem dX6_take_14 : decode cX6_take 14 = .ok (.getfield 15, 3) := by decide +kernel
theorem dX6_take_17 : decode cX6_take 17 = .ok (.iconst 0, 1) := by decide +kernel
theorem dX6_take_18 : decode cX6_take 18 = .ok (.bipush 40, 2) := by decide +kernel
theorem dX6_take_20 : decode cX6_take 20 = .ok (.invokestatic 22, 3) := by decide +kernel
theorem dX6_take_23 : decode cX6_take 23 = .ok (.aload_n 1, 1) := by decide +kernel
theorem dX6_take_24 : decode cX6_take 24 = .ok (.getfield 19, 3) := by decide +kernel
theorem dX6_take_27 : decode cX6_take 27 = .ok (.iconst 0, 1) := by decide +kernel
theorem dX6_take_28 : decode cX6_take 28 = .ok (.aload_n 0, 1) := by decide +kernel
theorem dX6_take_29 : decode cX6_take 29 = .ok (.getfield 19, 3) := by decide +kernel
theorem dX6_take_32 : decode cX6_take 32 = .ok (.iconst 0, 1) := by decide +kernel
theorem dX6_take_33 : decode cX6_take 33 = .ok (.bipush 40, 2) := by decide +kernel
theorem dX6_take_35 : decode cX6_take 35 = .ok (.invokestatic 22, 3) := by decide +kernel
theorem dX6_take_38 : decode cX6_take 38 = .ok (.return_, 1) := by decide +kernel
theorem dX7_init_0 : decode cX7_init 0 = .ok (.aload_n 0, 1) := by decide +kernel
theorem dX7_init_1 : decode cX7_init 1 = .ok (.invokespecial 1, 3) := by decide +kernel
theorem dX7_init_4 : decode cX7_init 4 = .ok (.aload_n 0, 1) := by decide +kernel
theorem dX7_init_5 : decode cX7_init 5 = .ok (.new 7, 3) := by decide +kernel
theorem dX7_init_8 : decode cX7_init 8 = .ok (.dup, 1) := by decide +kernel
theorem dX7_init_9 : decode cX7_init 9 = .ok (.invokespecial 9, 3) := by decide +kernel
theorem dX7_init_12 : decode cX7_init 12 = .ok (.putfield 10, 3) := by decide +kernel
theorem dX7_init_15 : decode cX7_init 15 = .ok (.aload_n 0, 1) := by decide +kernel
theorem dX7_init_16 : decode cX7_init 16 = .ok (.new 16, 3) := by decide +kernel
theorem dX7_init_19 : decode cX7_init 19 = .ok (.dup, 1) := by decide +kernel
theorem dX7_init_20 : decode cX7_init 20 = .ok (.invokespecial 18, 3) := by decide +kernel
theorem dX7_init_23 : decode cX7_init 23 = .ok (.putfield 19, 3) := by decide +kernel
theorem dX7_init_26 : decode cX7_init 26 = .ok (.return_, 1) := by decide +kernel
theorem dX7_take_0 : decode cX7_take 0 = .ok (.aload_n 0, 1) := by decide +kernel
theorem dX7_take_1 : decode cX7_take 1 = .ok (.getfield 10, 3) := by decide +kernel
theorem dX7_take_4 : decode cX7_take 4 = .ok (.aload_n 1, 1) := by decide +kernel
theorem dX7_take_5 : decode cX7_take 5 = .ok (.getfield 10, 3) := by decide +kernel
theorem dX7_take_8 : decode cX7_take 8 = .ok (.invokevirtual 23, 3) := by decide +kernel
theorem dX7_take_11 : decode cX7_take 11 = .ok (.aload_n 0, 1) := by decide +kernel
theorem dX7_take_12 : decode cX7_take 12 = .ok (.getfield 19, 3) := by decide +kernel
theorem dX7_take_15 : decode cX7_take 15 = .ok (.aload_n 1, 1) := by decide +kernel
theorem dX7_take_16 : decode cX7_take 16 = .ok (.getfield 19, 3) := by decide +kernel
theorem dX7_take_19 : decode cX7_take 19 = .ok (.invokevirtual 27, 3) := by decide +kernel
theorem dX7_take_22 : decode cX7_take 22 = .ok (.return_, 1) := by decide +kernel
theorem dX8_init_0 : decode cX8_init 0 = .ok (.aload_n 0, 1) := by decide +kernel
theorem dX8_init_1 : decode cX8_init 1 = .ok (.invokespecial 3, 3) := by decide +kernel
theorem dX8_init_4 : decode cX8_init 4 = .ok (.aload_n 0, 1) := by decide +kernel
theorem dX8_init_5 : decode cX8_init 5 = .ok (.iconst 0, 1) := by decide +kernel
theorem dX8_init_6 : decode cX8_init 6 = .ok (.putfield 9, 3) := by decide +kernel
theorem dX8_init_9 : decode cX8_init 9 = .ok (.return_, 1) := by decide +kernel
theorem dX8_search_0 : decode cX8_search 0 = .ok (.aload_n 0, 1) := by decide +kernel
theorem dX8_search_1 : decode cX8_search 1 = .ok (.iconst 1, 1) := by decide +kernel
theorem dX8_search_2 : decode cX8_search 2 = .ok (.putfield 9, 3) := by decide +kernel
theorem dX8_search_5 : decode cX8_search 5 = .ok (.aload_n 0, 1) := by decide +kernel
theorem dX8_search_6 : decode cX8_search 6 = .ok (.iconst 0, 1) := by decide +kernel
theorem dX8_search_7 : decode cX8_search 7 = .ok (.putfield 15, 3) := by decide +kernel
theorem dX8_search_10 : decode cX8_search 10 = .ok (.aload_n 0, 1) := by decide +kernel
theorem dX8_search_11 : decode cX8_search 11 = .ok (.bipush (-9), 2) := by decide +kernel
theorem dX8_search_13 : decode cX8_search 13 = .ok (.putfield 19, 3) := by decide +kernel
theorem dX8_search_16 : decode cX8_search 16 = .ok (.iconst 1, 1) := by decide +kernel
theorem dX8_search_17 : decode cX8_search 17 = .ok (.istore_n 3, 1) := by decide +kernel
theorem dX8_search_18 : decode cX8_search 18 = .ok (.iload_n 3, 1) := by decide +kernel
theorem dX8_search_19 : decode cX8_search 19 = .ok (.iconst 4, 1) := by decide +kernel
theorem dX8_search_20 : decode cX8_search 20 = .ok (.if_icmp .gt 112, 3) := by decide +kernel
theorem dX8_search_23 : decode cX8_search 23 = .ok (.iconst 1, 1) := by decide +kernel
theorem dX8_search_24 : decode cX8_search 24 = .ok (.istore 4, 2) := by decide +kernel
theorem dX8_search_26 : decode cX8_search 26 = .ok (.iload 4, 2) := by decide +kernel
theorem dX8_search_28 : decode cX8_search 28 = .ok (.bipush 31, 2) := by decide +kernel
theorem dX8_search_30 : decode cX8_search 30 = .ok (.if_icmp .gt 96, 3) := by decide +kernel
theorem dX8_search_33 : decode cX8_search 33 = .ok (.aload_n 0, 1) := by decide +kernel
theorem dX8_search_34 : decode cX8_search 34 = .ok (.aload_n 1, 1) := by decide +kernel
theorem dX8_search_35 : decode cX8_search 35 = .ok (.aload_n 2, 1) := by decide +kernel
theorem dX8_search_36 : decode cX8_search 36 = .ok (.iload_n 3, 1) := by decide +kernel
theorem dX8_search_37 : decode cX8_search 37 = .ok (.iload 4, 2) := by decide +kernel
theorem dX8_search_39 : decode cX8_search 39 = .ok (.invokevirtual 22, 3) := by decide +kernel
theorem dX8_search_42 : decode cX8_search 42 = .ok (.aload_n 0, 1) := by decide +kernel
theorem dX8_search_43 : decode cX8_search 43 = .ok (.getfield 26, 3) := by decide +kernel
theorem dX8_search_46 : decode cX8_search 46 = .ok (.iconst 1, 1) := by decide +kernel
theorem dX8_search_47 : decode cX8_search 47 = .ok (.iadd, 1) := by decide +kernel
theorem dX8_search_48 : decode cX8_search 48 = .ok (.istore 5, 2) := by decide +kernel
theorem dX8_search_50 : decode cX8_search 50 = .ok (.iload 5, 2) := by decide +kernel
theorem dX8_search_52 : decode cX8_search 52 = .ok (.aload_n 0, 1) := by decide +kernel
theorem dX8_search_53 : decode cX8_search 53 = .ok (.getfield 29, 3) := by decide +kernel
theorem dX8_search_56 : decode cX8_search 56 = .ok (.if_icmp .gt 64, 3) := by decide +kernel
theorem dX8_search_59 : decode cX8_search 59 = .ok (.aload_n 0, 1) := by decide +kernel
theorem dX8_search_60 : decode cX8_search 60 = .ok (.dup, 1) := by decide +kernel
theorem dX8_search_61 : decode cX8_search 61 = .ok (.getfield 15, 3) := by decide +kernel
theorem dX8_search_64 : decode cX8_search 64 = .ok (.aload_n 0, 1) := by decide +kernel
theorem dX8_search_65 : decode cX8_search 65 = .ok (.getfield 29, 3) := by decide +kernel
theorem dX8_search_68 : decode cX8_search 68 = .ok (.aload_n 0, 1) := by decide +kernel
theorem dX8_search_69 : decode cX8_search 69 = .ok (.getfield 26, 3) := by decide +kernel
theorem dX8_search_72 : decode cX8_search 72 = .ok (.isub, 1) := by decide +kernel
theorem dX8_search_73 : decode cX8_search 73 = .ok (.iadd, 1) := by decide +kernel
theorem dX8_search_74 : decode cX8_search 74 = .ok (.putfield 15, 3) := by decide +kernel
theorem dX8_search_77 : decode cX8_search 77 = .ok (.sipush 1000, 3) := by decide +kernel
theorem dX8_search_80 : decode cX8_search 80 = .ok (.iload_n 3, 1) := by decide +kernel
theorem dX8_search_81 : decode cX8_search 81 = .ok (.imul, 1) := by decide +kernel
theorem dX8_search_82 : decode cX8_search 82 = .ok (.bipush 100, 2) := by decide +kernel
theorem dX8_search_84 : decode cX8_search 84 = .ok (.iload 5, 2) := by decide +kernel
theorem dX8_search_86 : decode cX8_search 86 = .ok (.imul, 1) := by decide +kernel
theorem dX8_search_87 : decode cX8_search 87 = .ok (.iadd, 1) := by decide +kernel
theorem dX8_search_88 : decode cX8_search 88 = .ok (.iload 4, 2) := by decide +kernel
theorem dX8_search_90 : decode cX8_search 90 = .ok (.iadd, 1) := by decide +kernel
theorem dX8_search_91 : decode cX8_search 91 = .ok (.istore 6, 2) := by decide +kernel
theorem dX8_search_93 : decode cX8_search 93 = .ok (.aload_n 0, 1) := by decide +kernel
theorem dX8_search_94 : decode cX8_search 94 = .ok (.aload_n 0, 1) := by decide +kernel
theorem dX8_search_95 : decode cX8_search 95 = .ok (.getfield 19, 3) := by decide +kernel
theorem dX8_search_98 : decode cX8_search 98 = .ok (.bipush (-9), 2) := by decide +kernel
theorem dX8_search_100 : decode cX8_search 100 = .ok (.if_icmp .ne 8, 3) := by decide +kernel
theorem dX8_search_103 : decode cX8_search 103 = .ok (.iload 6, 2) := by decide +kernel
theorem dX8_search_105 : decode cX8_search 105 = .ok (.goto 12, 3) := by decide +kernel
theorem dX8_search_108 : decode cX8_search 108 = .ok (.aload_n 0, 1) := by decide +kernel
theorem dX8_search_109 : decode cX8_search 109 = .ok (.getfield 19, 3) := by decide +kernel
theorem dX8_search_112 : decode cX8_search 112 = .ok (.iload 6, 2) := by decide +kernel
theorem dX8_search_114 : decode cX8_search 114 = .ok (.invokestatic 32, 3) := by decide +kernel
theorem dX8_search_117 : decode cX8_search 117 = .ok (.putfield 19, 3) := by decide +kernel
theorem dX8_search_120 : decode cX8_search 120 = .ok (.iinc 4 1, 3) := by decide +kernel
theorem dX8_search_123 : decode cX8_search 123 = .ok (.goto (-97), 3) := by decide +kernel
theorem dX8_search_126 : decode cX8_search 126 = .ok (.iinc 3 1, 3) := by decide +kernel
theorem dX8_search_129 : decode cX8_search 129 = .ok (.goto (-111), 3) := by decide +kernel
theorem dX8_search_132 : decode cX8_search 132 = .ok (.return_, 1) := by decide +kernel
theorem dX8_weigh_0 : decode cX8_weigh 0 = .ok (.iconst 1, 1) := by decide +kernel
theorem dX8_weigh_1 : decode cX8_weigh 1 = .ok (.iload_n 3, 1) := by decide +kernel
theorem dX8_weigh_2 : decode cX8_weigh 2 = .ok (.ishl, 1) := by decide +kernel
theorem dX8_weigh_3 : decode cX8_weigh 3 = .ok (.iconst 1, 1) := by decide +kernel
theorem dX8_weigh_4 : decode cX8_weigh 4 = .ok (.isub, 1) := by decide +kernel
theorem dX8_weigh_5 : decode cX8_weigh 5 = .ok (.istore 5, 2) := by decide +kernel
theorem dX8_weigh_7 : decode cX8_weigh 7 = .ok (.iconst 0, 1) := by decide +kernel
theorem dX8_weigh_8 : decode cX8_weigh 8 = .ok (.istore 6, 2) := by decide +kernel
theorem dX8_weigh_10 : decode cX8_weigh 10 = .ok (.aload_n 0, 1) := by decide +kernel
theorem dX8_weigh_11 : decode cX8_weigh 11 = .ok (.iconst 0, 1) := by decide +kernel
theorem dX8_weigh_12 : decode cX8_weigh 12 = .ok (.putfield 26, 3) := by decide +kernel
theorem dX8_weigh_15 : decode cX8_weigh 15 = .ok (.aload_n 0, 1) := by decide +kernel
theorem dX8_weigh_16 : decode cX8_weigh 16 = .ok (.iload_n 3, 1) := by decide +kernel
theorem dX8_weigh_17 : decode cX8_weigh 17 = .ok (.putfield 29, 3) := by decide +kernel
theorem dX8_weigh_20 : decode cX8_weigh 20 = .ok (.iconst 0, 1) := by decide +kernel
theorem dX8_weigh_21 : decode cX8_weigh 21 = .ok (.istore 7, 2) := by decide +kernel
theorem dX8_weigh_23 : decode cX8_weigh 23 = .ok (.iload 7, 2) := by decide +kernel
theorem dX8_weigh_25 : decode cX8_weigh 25 = .ok (.aload_n 1, 1) := by decide +kernel
theorem dX8_weigh_26 : decode cX8_weigh 26 = .ok (.getfield 38, 3) := by decide +kernel
theorem dX8_weigh_29 : decode cX8_weigh 29 = .ok (.if_icmp .ge 95, 3) := by decide +kernel
theorem dX8_weigh_32 : decode cX8_weigh 32 = .ok (.iload 7, 2) := by decide +kernel
theorem dX8_weigh_34 : decode cX8_weigh 34 = .ok (.bipush 40, 2) := by decide +kernel
theorem dX8_weigh_36 : decode cX8_weigh 36 = .ok (.if_icmp .ge 88, 3) := by decide +kernel
theorem dX8_weigh_39 : decode cX8_weigh 39 = .ok (.aload_n 0, 1) := by decide +kernel
theorem dX8_weigh_40 : decode cX8_weigh 40 = .ok (.getfield 26, 3) := by decide +kernel
theorem dX8_weigh_43 : decode cX8_weigh 43 = .ok (.aload_n 0, 1) := by decide +kernel
theorem dX8_weigh_44 : decode cX8_weigh 44 = .ok (.getfield 29, 3) := by decide +kernel
theorem dX8_weigh_47 : decode cX8_weigh 47 = .ok (.if_icmp .ge 77, 3) := by decide +kernel
theorem dX8_weigh_50 : decode cX8_weigh 50 = .ok (.iload 6, 2) := by decide +kernel
theorem dX8_weigh_52 : decode cX8_weigh 52 = .ok (.iconst 1, 1) := by decide +kernel
theorem dX8_weigh_53 : decode cX8_weigh 53 = .ok (.ishl, 1) := by decide +kernel
theorem dX8_weigh_54 : decode cX8_weigh 54 = .ok (.iload 4, 2) := by decide +kernel
theorem dX8_weigh_56 : decode cX8_weigh 56 = .ok (.aload_n 1, 1) := by decide +kernel
theorem dX8_weigh_57 : decode cX8_weigh 57 = .ok (.getfield 41, 3) := by decide +kernel
theorem dX8_weigh_60 : decode cX8_weigh 60 = .ok (.iload 7, 2) := by decide +kernel
theorem dX8_weigh_62 : decode cX8_weigh 62 = .ok (.iaload, 1) := by decide +kernel
theorem dX8_weigh_63 : decode cX8_weigh 63 = .ok (.ishr, 1) := by decide +kernel
theorem dX8_weigh_64 : decode cX8_weigh 64 = .ok (.iconst 1, 1) := by decide +kernel
theorem dX8_weigh_65 : decode cX8_weigh 65 = .ok (.iand, 1) := by decide +kernel
theorem dX8_weigh_66 : decode cX8_weigh 66 = .ok (.ior, 1) := by decide +kernel
theorem dX8_weigh_67 : decode cX8_weigh 67 = .ok (.iload 5, 2) := by decide +kernel
theorem dX8_weigh_69 : decode cX8_weigh 69 = .ok (.iand, 1) := by decide +kernel
theorem dX8_weigh_70 : decode cX8_weigh 70 = .ok (.istore 6, 2) := by decide +kernel
theorem dX8_weigh_72 : decode cX8_weigh 72 = .ok (.iload 6, 2) := by decide +kernel
theorem dX8_weigh_74 : decode cX8_weigh 74 = .ok (.invokestatic 45, 3) := by decide +kernel
theorem dX8_weigh_77 : decode cX8_weigh 77 = .ok (.istore 8, 2) := by decide +kernel
theorem dX8_weigh_79 : decode cX8_weigh 79 = .ok (.aload_n 2, 1) := by decide +kernel
theorem dX8_weigh_80 : decode cX8_weigh 80 = .ok (.iload 7, 2) := by decide +kernel
theorem dX8_weigh_82 : decode cX8_weigh 82 = .ok (.iaload, 1) := by decide +kernel
theorem dX8_weigh_83 : decode cX8_weigh 83 = .ok (.ifCond .ne 19, 3) := by decide +kernel
theorem dX8_weigh_86 : decode cX8_weigh 86 = .ok (.aload_n 0, 1) := by decide +kernel
theorem dX8_weigh_87 : decode cX8_weigh 87 = .ok (.aload_n 0, 1) := by decide +kernel
theorem dX8_weigh_88 : decode cX8_weigh 88 = .ok (.getfield 26, 3) := by decide +kernel
theorem dX8_weigh_91 : decode cX8_weigh 91 = .ok (.iload 8, 2) := by decide +kernel
theorem dX8_weigh_93 : decode cX8_weigh 93 = .ok (.invokestatic 51, 3) := by decide +kernel
theorem dX8_weigh_96 : decode cX8_weigh 96 = .ok (.putfield 26, 3) := by decide +kernel
theorem dX8_weigh_99 : decode cX8_weigh 99 = .ok (.goto 19, 3) := by decide +kernel
theorem dX8_weigh_102 : decode cX8_weigh 102 = .ok (.aload_n 0, 1) := by decide +kernel
theorem dX8_weigh_103 : decode cX8_weigh 103 = .ok (.aload_n 0, 1) := by decide +kernel
theorem dX8_weigh_104 : decode cX8_weigh 104 = .ok (.getfield 29, 3) := by decide +kernel
theorem dX8_weigh_107 : decode cX8_weigh 107 = .ok (.iload 8, 2) := by decide +kernel
theorem dX8_weigh_109 : decode cX8_weigh 109 = .ok (.invokestatic 32, 3) := by decide +kernel
theorem dX8_weigh_112 : decode cX8_weigh 112 = .ok (.putfield 29, 3) := by decide +kernel
theorem dX8_weigh_115 : decode cX8_weigh 115 = .ok (.iconst 0, 1) := by decide +kernel
theorem dX8_weigh_116 : decode cX8_weigh 116 = .ok (.istore 6, 2) := by decide +kernel
theorem dX8_weigh_118 : decode cX8_weigh 118 = .ok (.iinc 7 1, 3) := by decide +kernel
theorem dX8_weigh_121 : decode cX8_weigh 121 = .ok (.goto (-98), 3) := by decide +kernel
theorem dX8_weigh_124 : decode cX8_weigh 124 = .ok (.return_, 1) := by decide +kernel
theorem dX9_init_0 : decode cX9_init 0 = .ok (.aload_n 0, 1) := by decide +kernel
theorem dX9_init_1 : decode cX9_init 1 = .ok (.invokespecial 3, 3) := by decide +kernel
theorem dX9_init_4 : decode cX9_init 4 = .ok (.aload_n 0, 1) := by decide +kernel
theorem dX9_init_5 : decode cX9_init 5 = .ok (.bipush 120, 2) := by decide +kernel
theorem dX9_init_7 : decode cX9_init 7 = .ok (.newarray .int, 2) := by decide +kernel
theorem dX9_init_9 : decode cX9_init 9 = .ok (.putfield 9, 3) := by decide +kernel
theorem dX9_init_12 : decode cX9_init 12 = .ok (.aload_n 0, 1) := by decide +kernel
theorem dX9_init_13 : decode cX9_init 13 = .ok (.iconst 0, 1) := by decide +kernel
theorem dX9_init_14 : decode cX9_init 14 = .ok (.putfield 15, 3) := by decide +kernel
theorem dX9_init_17 : decode cX9_init 17 = .ok (.aload_n 0, 1) := by decide +kernel
theorem dX9_init_18 : decode cX9_init 18 = .ok (.bipush 120, 2) := by decide +kernel
theorem dX9_init_20 : decode cX9_init 20 = .ok (.newarray .int, 2) := by decide +kernel
theorem dX9_init_22 : decode cX9_init 22 = .ok (.putfield 19, 3) := by decide +kernel
theorem dX9_init_25 : decode cX9_init 25 = .ok (.aload_n 0, 1) := by decide +kernel
theorem dX9_init_26 : decode cX9_init 26 = .ok (.bipush 120, 2) := by decide +kernel
theorem dX9_init_28 : decode cX9_init 28 = .ok (.newarray .int, 2) := by decide +kernel
theorem dX9_init_30 : decode cX9_init 30 = .ok (.putfield 22, 3) := by decide +kernel
theorem dX9_init_33 : decode cX9_init 33 = .ok (.aload_n 0, 1) := by decide +kernel
theorem dX9_init_34 : decode cX9_init 34 = .ok (.bipush 120, 2) := by decide +kernel
theorem dX9_init_36 : decode cX9_init 36 = .ok (.newarray .int, 2) := by decide +kernel
theorem dX9_init_38 : decode cX9_init 38 = .ok (.putfield 25, 3) := by decide +kernel
theorem dX9_init_41 : decode cX9_init 41 = .ok (.return_, 1) := by decide +kernel
theorem dX9_add_0 : decode cX9_add 0 = .ok (.aload_n 0, 1) := by decide +kernel
theorem dX9_add_1 : decode cX9_add 1 = .ok (.getfield 15, 3) := by decide +kernel
theorem dX9_add_4 : decode cX9_add 4 = .ok (.bipush 120, 2) := by decide +kernel
theorem dX9_add_6 : decode cX9_add 6 = .ok (.if_icmp .ge 23, 3) := by decide +kernel
theorem dX9_add_9 : decode cX9_add 9 = .ok (.aload_n 0, 1) := by decide +kernel
theorem dX9_add_10 : decode cX9_add 10 = .ok (.getfield 9, 3) := by decide +kernel
theorem dX9_add_13 : decode cX9_add 13 = .ok (.aload_n 0, 1) := by decide +kernel
theorem dX9_add_14 : decode cX9_add 14 = .ok (.getfield 15, 3) := by decide +kernel
theorem dX9_add_17 : decode cX9_add 17 = .ok (.iload_n 1, 1) := by decide +kernel
theorem dX9_add_18 : decode cX9_add 18 = .ok (.iastore, 1) := by decide +kernel
theorem dX9_add_19 : decode cX9_add 19 = .ok (.aload_n 0, 1) := by decide +kernel
theorem dX9_add_20 : decode cX9_add 20 = .ok (.dup, 1) := by decide +kernel
theorem dX9_add_21 : decode cX9_add 21 = .ok (.getfield 15, 3) := by decide +kernel
theorem dX9_add_24 : decode cX9_add 24 = .ok (.iconst 1, 1) := by decide +kernel
theorem dX9_add_25 : decode cX9_add 25 = .ok (.iadd, 1) := by decide +kernel
theorem dX9_add_26 : decode cX9_add 26 = .ok (.putfield 15, 3) := by decide +kernel
theorem dX9_add_29 : decode cX9_add 29 = .ok (.return_, 1) := by decide +kernel
theorem dX9_kindOf_0 : decode cX9_kindOf 0 = .ok (.aload_n 0, 1) := by decide +kernel
theorem dX9_kindOf_1 : decode cX9_kindOf 1 = .ok (.iload_n 1, 1) := by decide +kernel
theorem dX9_kindOf_2 : decode cX9_kindOf 2 = .ok (.invokevirtual 28, 3) := by decide +kernel
theorem dX9_kindOf_5 : decode cX9_kindOf 5 = .ok (.ifCond .eq 12, 3) := by decide +kernel
theorem dX9_kindOf_8 : decode cX9_kindOf 8 = .ok (.aload_n 0, 1) := by decide +kernel
theorem dX9_kindOf_9 : decode cX9_kindOf 9 = .ok (.getfield 19, 3) := by decide +kernel
theorem dX9_kindOf_12 : decode cX9_kindOf 12 = .ok (.iload_n 1, 1) := by decide +kernel
theorem dX9_kindOf_13 : decode cX9_kindOf 13 = .ok (.iaload, 1) := by decide +kernel
theorem dX9_kindOf_14 : decode cX9_kindOf 14 = .ok (.goto 4, 3) := by decide +kernel
theorem dX9_kindOf_17 : decode cX9_kindOf 17 = .ok (.iconst 0, 1) := by decide +kernel
theorem dX9_kindOf_18 : decode cX9_kindOf 18 = .ok (.ireturn, 1) := by decide +kernel
theorem dX9_valueOf_0 : decode cX9_valueOf 0 = .ok (.aload_n 0, 1) := by decide +kernel
theorem dX9_valueOf_1 : decode cX9_valueOf 1 = .ok (.iload_n 1, 1) := by decide +kernel
theorem dX9_valueOf_2 : decode cX9_valueOf 2 = .ok (.invokevirtual 28, 3) := by decide +kernel
theorem dX9_valueOf_5 : decode cX9_valueOf 5 = .ok (.ifCond .eq 12, 3) := by decide +kernel
theorem dX9_valueOf_8 : decode cX9_valueOf 8 = .ok (.aload_n 0, 1) := by decide +kernel
theorem dX9_valueOf_9 : decode cX9_valueOf 9 = .ok (.getfield 25, 3) := by decide +kernel
theorem dX9_valueOf_12 : decode cX9_valueOf 12 = .ok (.iload_n 1, 1) := by decide +kernel
theorem dX9_valueOf_13 : decode cX9_valueOf 13 = .ok (.iaload, 1) := by decide +kernel
theorem dX9_valueOf_14 : decode cX9_valueOf 14 = .ok (.goto 4, 3) := by decide +kernel
theorem dX9_valueOf_17 : decode cX9_valueOf 17 = .ok (.iconst 0, 1) := by decide +kernel
theorem dX9_valueOf_18 : decode cX9_valueOf 18 = .ok (.ireturn, 1) := by decide +kernel
theorem dX9_startOf_0 : decode cX9_startOf 0 = .ok (.aload_n 0, 1) := by decide +kernel
theorem dX9_startOf_1 : decode cX9_startOf 1 = .ok (.iload_n 1, 1) := by decide +kernel
theorem dX9_startOf_2 : decode cX9_startOf 2 = .ok (.invokevirtual 28, 3) := by decide +kernel
theorem dX9_startOf_5 : decode cX9_startOf 5 = .ok (.ifCond .eq 12, 3) := by decide +kernel
theorem dX9_startOf_8 : decode cX9_startOf 8 = .ok (.aload_n 0, 1) := by decide +kernel
theorem dX9_startOf_9 : decode cX9_startOf 9 = .ok (.getfield 22, 3) := by decide +kernel
theorem dX9_startOf_12 : decode cX9_startOf 12 = .ok (.iload_n 1, 1) := by decide +kernel
theorem dX9_startOf_13 : decode cX9_startOf 13 = .ok (.iaload, 1) := by decide +kernel
theorem dX9_startOf_14 : decode cX9_startOf 14 = .ok (.goto 7, 3) := by decide +kernel
theorem dX9_startOf_17 : decode cX9_startOf 17 = .ok (.aload_n 0, 1) := by decide +kernel
theorem dX9_startOf_18 : decode cX9_startOf 18 = .ok (.getfield 15, 3) := by decide +kernel
theorem dX9_startOf_21 : decode cX9_startOf 21 = .ok (.ireturn, 1) := by decide +kernel
theorem dX9_cut_0 : decode cX9_cut 0 = .ok (.aload_n 0, 1) := by decide +kernel
theorem dX9_cut_1 : decode cX9_cut 1 = .ok (.iconst 0, 1) := by decide +kernel
theorem dX9_cut_2 : decode cX9_cut 2 = .ok (.putfield 32, 3) := by decide +kernel
theorem dX9_cut_5 : decode cX9_cut 5 = .ok (.aload_n 0, 1) := by decide +kernel
theorem dX9_cut_6 : decode cX9_cut 6 = .ok (.iconst 0, 1) := by decide +kernel
theorem dX9_cut_7 : decode cX9_cut 7 = .ok (.putfield 35, 3) := by decide +kernel
theorem dX9_cut_10 : decode cX9_cut 10 = .ok (.iconst 0, 1) := by decide +kernel
theorem dX9_cut_11 : decode cX9_cut 11 = .ok (.istore_n 1, 1) := by decide +kernel
theorem dX9_cut_12 : decode cX9_cut 12 = .ok (.iload_n 1, 1) := by decide +kernel
theorem dX9_cut_13 : decode cX9_cut 13 = .ok (.bipush 120, 2) := by decide +kernel
theorem dX9_cut_15 : decode cX9_cut 15 = .ok (.if_icmp .ge 73, 3) := by decide +kernel
theorem dX9_cut_18 : decode cX9_cut 18 = .ok (.aload_n 0, 1) := by decide +kernel
theorem dX9_cut_19 : decode cX9_cut 19 = .ok (.getfield 32, 3) := by decide +kernel
theorem dX9_cut_22 : decode cX9_cut 22 = .ok (.aload_n 0, 1) := by decide +kernel
theorem dX9_cut_23 : decode cX9_cut 23 = .ok (.getfield 15, 3) := by decide +kernel
theorem dX9_cut_26 : decode cX9_cut 26 = .ok (.if_icmp .ge 62, 3) := by decide +kernel
theorem dX9_cut_29 : decode cX9_cut 29 = .ok (.aload_n 0, 1) := by decide +kernel
theorem dX9_cut_30 : decode cX9_cut 30 = .ok (.aload_n 0, 1) := by decide +kernel
theorem dX9_cut_31 : decode cX9_cut 31 = .ok (.getfield 32, 3) := by decide +kernel
theorem dX9_cut_34 : decode cX9_cut 34 = .ok (.invokevirtual 38, 3) := by decide +kernel
theorem dX9_cut_37 : decode cX9_cut 37 = .ok (.bipush 32, 2) := by decide +kernel
theorem dX9_cut_39 : decode cX9_cut 39 = .ok (.if_icmp .ne 16, 3) := by decide +kernel
theorem dX9_cut_42 : decode cX9_cut 42 = .ok (.aload_n 0, 1) := by decide +kernel
theorem dX9_cut_43 : decode cX9_cut 43 = .ok (.dup, 1) := by decide +kernel
theorem dX9_cut_44 : decode cX9_cut 44 = .ok (.getfield 32, 3) := by decide +kernel
theorem dX9_cut_47 : decode cX9_cut 47 = .ok (.iconst 1, 1) := by decide +kernel
theorem dX9_cut_48 : decode cX9_cut 48 = .ok (.iadd, 1) := by decide +kernel
theorem dX9_cut_49 : decode cX9_cut 49 = .ok (.putfield 32, 3) := by decide +kernel
theorem dX9_cut_52 : decode cX9_cut 52 = .ok (.goto 30, 3) := by decide +kernel
theorem dX9_cut_55 : decode cX9_cut 55 = .ok (.aload_n 0, 1) := by decide +kernel
theorem dX9_cut_56 : decode cX9_cut 56 = .ok (.getfield 35, 3) := by decide +kernel
theorem dX9_cut_59 : decode cX9_cut 59 = .ok (.bipush 120, 2) := by decide +kernel
theorem dX9_cut_61 : decode cX9_cut 61 = .ok (.if_icmp .ge 21, 3) := by decide +kernel
theorem dX9_cut_64 : decode cX9_cut 64 = .ok (.aload_n 0, 1) := by decide +kernel
theorem dX9_cut_65 : decode cX9_cut 65 = .ok (.aload_n 0, 1) := by decide +kernel
theorem dX9_cut_66 : decode cX9_cut 66 = .ok (.getfield 35, 3) := by decide +kernel
theorem dX9_cut_69 : decode cX9_cut 69 = .ok (.invokevirtual 42, 3) := by decide +kernel
theorem dX9_cut_72 : decode cX9_cut 72 = .ok (.aload_n 0, 1) := by decide +kernel
theorem dX9_cut_73 : decode cX9_cut 73 = .ok (.dup, 1) := by decide +kernel
theorem dX9_cut_74 : decode cX9_cut 74 = .ok (.getfield 35, 3) := by decide +kernel
theorem dX9_cut_77 : decode cX9_cut 77 = .ok (.iconst 1, 1) := by decide +kernel
theorem dX9_cut_78 : decode cX9_cut 78 = .ok (.iadd, 1) := by decide +kernel
theorem dX9_cut_79 : decode cX9_cut 79 = .ok (.putfield 35, 3) := by decide +kernel
theorem dX9_cut_82 : decode cX9_cut 82 = .ok (.iinc 1 1, 3) := by decide +kernel
theorem dX9_cut_85 : decode cX9_cut 85 = .ok (.goto (-73), 3) := by decide +kernel
theorem dX9_cut_88 : decode cX9_cut 88 = .ok (.return_, 1) := by decide +kernel
theorem dX9_cutToken_0 : decode cX9_cutToken 0 = .ok (.aload_n 0, 1) := by decide +kernel
theorem dX9_cutToken_1 : decode cX9_cutToken 1 = .ok (.aload_n 0, 1) := by decide +kernel
theorem dX9_cutToken_2 : decode cX9_cutToken 2 = .ok (.getfield 32, 3) := by decide +kernel
theorem dX9_cutToken_5 : decode cX9_cutToken 5 = .ok (.invokevirtual 38, 3) := by decide +kernel
theorem dX9_cutToken_8 : decode cX9_cutToken 8 = .ok (.istore_n 2, 1) := by decide +kernel
theorem dX9_cutToken_9 : decode cX9_cutToken 9 = .ok (.aload_n 0, 1) := by decide +kernel
theorem dX9_cutToken_10 : decode cX9_cutToken 10 = .ok (.getfield 22, 3) := by decide +kernel
theorem dX9_cutToken_13 : decode cX9_cutToken 13 = .ok (.iload_n 1, 1) := by decide +kernel
theorem dX9_cutToken_14 : decode cX9_cutToken 14 = .ok (.aload_n 0, 1) := by decide +kernel
theorem dX9_cutToken_15 : decode cX9_cutToken 15 = .ok (.getfield 32, 3) := by decide +kernel
theorem dX9_cutToken_18 : decode cX9_cutToken 18 = .ok (.iastore, 1) := by decide +kernel
theorem dX9_cutToken_19 : decode cX9_cutToken 19 = .ok (.aload_n 0, 1) := by decide +kernel
theorem dX9_cutToken_20 : decode cX9_cutToken 20 = .ok (.getfield 25, 3) := by decide +kernel
theorem dX9_cutToken_23 : decode cX9_cutToken 23 = .ok (.iload_n 1, 1) := by decide +kernel
theorem dX9_cutToken_24 : decode cX9_cutToken 24 = .ok (.iconst 0, 1) := by decide +kernel
theorem dX9_cutToken_25 : decode cX9_cutToken 25 = .ok (.iastore, 1) := by decide +kernel
theorem dX9_cutToken_26 : decode cX9_cutToken 26 = .ok (.iload_n 2, 1) := by decide +kernel
theorem dX9_cutToken_27 : decode cX9_cutToken 27 = .ok (.invokestatic 46, 3) := by decide +kernel
theorem dX9_cutToken_30 : decode cX9_cutToken 30 = .ok (.ifCond .eq 16, 3) := by decide +kernel
theorem dX9_cutToken_33 : decode cX9_cutToken 33 = .ok (.aload_n 0, 1) := by decide +kernel
theorem dX9_cutToken_34 : decode cX9_cutToken 34 = .ok (.getfield 19, 3) := by decide +kernel
theorem dX9_cutToken_37 : decode cX9_cutToken 37 = .ok (.iload_n 1, 1) := by decide +kernel
theorem dX9_cutToken_38 : decode cX9_cutToken 38 = .ok (.aload_n 0, 1) := by decide +kernel
theorem dX9_cutToken_39 : decode cX9_cutToken 39 = .ok (.invokevirtual 49, 3) := by decide +kernel
theorem dX9_cutToken_42 : decode cX9_cutToken 42 = .ok (.iastore, 1) := by decide +kernel
theorem dX9_cutToken_43 : decode cX9_cutToken 43 = .ok (.goto 74, 3) := by decide +kernel
theorem dX9_cutToken_46 : decode cX9_cutToken 46 = .ok (.iload_n 2, 1) := by decide +kernel
theorem dX9_cutToken_47 : decode cX9_cutToken 47 = .ok (.invokestatic 53, 3) := by decide +kernel
theorem dX9_cutToken_50 : decode cX9_cutToken 50 = .ok (.ifCond .eq 39, 3) := by decide +kernel
theorem dX9_cutToken_53 : decode cX9_cutToken 53 = .ok (.aload_n 0, 1) := by decide +kernel
theorem dX9_cutToken_54 : decode cX9_cutToken 54 = .ok (.getfield 25, 3) := by decide +kernel
theorem dX9_cutToken_57 : decode cX9_cutToken 57 = .ok (.iload_n 1, 1) := by decide +kernel
theorem dX9_cutToken_58 : decode cX9_cutToken 58 = .ok (.aload_n 0, 1) := by decide +kernel
theorem dX9_cutToken_59 : decode cX9_cutToken 59 = .ok (.invokevirtual 56, 3) := by decide +kernel
theorem dX9_cutToken_62 : decode cX9_cutToken 62 = .ok (.iastore, 1) := by decide +kernel
theorem dX9_cutToken_63 : decode cX9_cutToken 63 = .ok (.aload_n 0, 1) := by decide +kernel
theorem dX9_cutToken_64 : decode cX9_cutToken 64 = .ok (.getfield 19, 3) := by decide +kernel
theorem dX9_cutToken_67 : decode cX9_cutToken 67 = .ok (.iload_n 1, 1) := by decide +kernel
theorem dX9_cutToken_68 : decode cX9_cutToken 68 = .ok (.aload_n 0, 1) := by decide +kernel
theorem dX9_cutToken_69 : decode cX9_cutToken 69 = .ok (.getfield 25, 3) := by decide +kernel
theorem dX9_cutToken_72 : decode cX9_cutToken 72 = .ok (.iload_n 1, 1) := by decide +kernel
theorem dX9_cutToken_73 : decode cX9_cutToken 73 = .ok (.iaload, 1) := by decide +kernel
theorem dX9_cutToken_74 : decode cX9_cutToken 74 = .ok (.bipush 100, 2) := by decide +kernel
theorem dX9_cutToken_76 : decode cX9_cutToken 76 = .ok (.if_icmp .ge 7, 3) := by decide +kernel
theorem dX9_cutToken_79 : decode cX9_cutToken 79 = .ok (.iconst 4, 1) := by decide +kernel
theorem dX9_cutToken_80 : decode cX9_cutToken 80 = .ok (.goto 5, 3) := by decide +kernel
theorem dX9_cutToken_83 : decode cX9_cutToken 83 = .ok (.bipush 6, 2) := by decide +kernel
theorem dX9_cutToken_85 : decode cX9_cutToken 85 = .ok (.iastore, 1) := by decide +kernel
theorem dX9_cutToken_86 : decode cX9_cutToken 86 = .ok (.goto 31, 3) := by decide +kernel
theorem dX9_cutToken_89 : decode cX9_cutToken 89 = .ok (.aload_n 0, 1) := by decide +kernel
theorem dX9_cutToken_90 : decode cX9_cutToken 90 = .ok (.getfield 19, 3) := by decide +kernel
theorem dX9_cutToken_93 : decode cX9_cutToken 93 = .ok (.iload_n 1, 1) := by decide +kernel
theorem dX9_cutToken_94 : decode cX9_cutToken 94 = .ok (.iload_n 2, 1) := by decide +kernel
theorem dX9_cutToken_95 : decode cX9_cutToken 95 = .ok (.bipush 59, 2) := by decide +kernel
theorem dX9_cutToken_97 : decode cX9_cutToken 97 = .ok (.if_icmp .ne 7, 3) := by decide +kernel
theorem dX9_cutToken_100 : decode cX9_cutToken 100 = .ok (.iconst 5, 1) := by decide +kernel
theorem dX9_cutToken_101 : decode cX9_cutToken 101 = .ok (.goto 5, 3) := by decide +kernel
theorem dX9_cutToken_104 : decode cX9_cutToken 104 = .ok (.bipush 6, 2) := by decide +kernel
theorem dX9_cutToken_106 : decode cX9_cutToken 106 = .ok (.iastore, 1) := by decide +kernel
theorem dX9_cutToken_107 : decode cX9_cutToken 107 = .ok (.aload_n 0, 1) := by decide +kernel
theorem dX9_cutToken_108 : decode cX9_cutToken 108 = .ok (.dup, 1) := by decide +kernel
theorem dX9_cutToken_109 : decode cX9_cutToken 109 = .ok (.getfield 32, 3) := by decide +kernel
theorem dX9_cutToken_112 : decode cX9_cutToken 112 = .ok (.iconst 1, 1) := by decide +kernel
theorem dX9_cutToken_113 : decode cX9_cutToken 113 = .ok (.iadd, 1) := by decide +kernel
theorem dX9_cutToken_114 : decode cX9_cutToken 114 = .ok (.putfield 32, 3) := by decide +kernel
theorem dX9_cutToken_117 : decode cX9_cutToken 117 = .ok (.return_, 1) := by decide +kernel
theorem dX9_passWord_0 : decode cX9_passWord 0 = .ok (.aload_n 0, 1) := by decide +kernel
theorem dX9_passWord_1 : decode cX9_passWord 1 = .ok (.getfield 32, 3) := by decide +kernel
theorem dX9_passWord_4 : decode cX9_passWord 4 = .ok (.istore_n 1, 1) := by decide +kernel
theorem dX9_passWord_5 : decode cX9_passWord 5 = .ok (.iconst 0, 1) := by decide +kernel
theorem dX9_passWord_6 : decode cX9_passWord 6 = .ok (.istore_n 2, 1) := by decide +kernel
theorem dX9_passWord_7 : decode cX9_passWord 7 = .ok (.iload_n 2, 1) := by decide +kernel
theorem dX9_passWord_8 : decode cX9_passWord 8 = .ok (.bipush 120, 2) := by decide +kernel
theorem dX9_passWord_10 : decode cX9_passWord 10 = .ok (.if_icmp .ge 33, 3) := by decide +kernel
theorem dX9_passWord_13 : decode cX9_passWord 13 = .ok (.aload_n 0, 1) := by decide +kernel
theorem dX9_passWord_14 : decode cX9_passWord 14 = .ok (.aload_n 0, 1) := by decide +kernel
theorem dX9_passWord_15 : decode cX9_passWord 15 = .ok (.getfield 32, 3) := by decide +kernel
theorem dX9_passWord_18 : decode cX9_passWord 18 = .ok (.invokevirtual 38, 3) := by decide +kernel
theorem dX9_passWord_21 : decode cX9_passWord 21 = .ok (.invokestatic 46, 3) := by decide +kernel
theorem dX9_passWord_24 : decode cX9_passWord 24 = .ok (.ifCond .eq 19, 3) := by decide +kernel
theorem dX9_passWord_27 : decode cX9_passWord 27 = .ok (.aload_n 0, 1) := by decide +kernel
theorem dX9_passWord_28 : decode cX9_passWord 28 = .ok (.dup, 1) := by decide +kernel
theorem dX9_passWord_29 : decode cX9_passWord 29 = .ok (.getfield 32, 3) := by decide +kernel
theorem dX9_passWord_32 : decode cX9_passWord 32 = .ok (.iconst 1, 1) := by decide +kernel
theorem dX9_passWord_33 : decode cX9_passWord 33 = .ok (.iadd, 1) := by decide +kernel
theorem dX9_passWord_34 : decode cX9_passWord 34 = .ok (.putfield 32, 3) := by decide +kernel
theorem dX9_passWord_37 : decode cX9_passWord 37 = .ok (.iinc 2 1, 3) := by decide +kernel
theorem dX9_passWord_40 : decode cX9_passWord 40 = .ok (.goto (-33), 3) := by decide +kernel
theorem dX9_passWord_43 : decode cX9_passWord 43 = .ok (.aload_n 0, 1) := by decide +kernel
theorem dX9_passWord_44 : decode cX9_passWord 44 = .ok (.iload_n 1, 1) := by decide +kernel
theorem dX9_passWord_45 : decode cX9_passWord 45 = .ok (.ldc 59, 2) := by decide +kernel
theorem dX9_passWord_47 : decode cX9_passWord 47 = .ok (.invokevirtual 61, 3) := by decide +kernel
theorem dX9_passWord_50 : decode cX9_passWord 50 = .ok (.ifCond .eq 5, 3) := by decide +kernel
theorem dX9_passWord_53 : decode cX9_passWord 53 = .ok (.iconst 1, 1) := by decide +kernel
theorem dX9_passWord_54 : decode cX9_passWord 54 = .ok (.ireturn, 1) := by decide +kernel
theorem dX9_passWord_55 : decode cX9_passWord 55 = .ok (.aload_n 0, 1) := by decide +kernel
theorem dX9_passWord_56 : decode cX9_passWord 56 = .ok (.iload_n 1, 1) := by decide +kernel
theorem dX9_passWord_57 : decode cX9_passWord 57 = .ok (.ldc 65, 2) := by decide +kernel
theorem dX9_passWord_59 : decode cX9_passWord 59 = .ok (.invokevirtual 61, 3) := by decide +kernel
theorem dX9_passWord_62 : decode cX9_passWord 62 = .ok (.ifCond .eq 5, 3) := by decide +kernel
theorem dX9_passWord_65 : decode cX9_passWord 65 = .ok (.iconst 2, 1) := by decide +kernel
theorem dX9_passWord_66 : decode cX9_passWord 66 = .ok (.ireturn, 1) := by decide +kernel
theorem dX9_passWord_67 : decode cX9_passWord 67 = .ok (.aload_n 0, 1) := by decide +kernel
theorem dX9_passWord_68 : decode cX9_passWord 68 = .ok (.iload_n 1, 1) := by decide +kernel
theorem dX9_passWord_69 : decode cX9_passWord 69 = .ok (.ldc 67, 2) := by decide +kernel
theorem dX9_passWord_71 : decode cX9_passWord 71 = .ok (.invokevirtual 61, 3) := by decide +kernel
theorem dX9_passWord_74 : decode cX9_passWord 74 = .ok (.ifCond .eq 7, 3) := by decide +kernel
theorem dX9_passWord_77 : decode cX9_passWord 77 = .ok (.iconst 3, 1) := by decide +kernel
theorem dX9_passWord_78 : decode cX9_passWord 78 = .ok (.goto 5, 3) := by decide +kernel
theorem dX9_passWord_81 : decode cX9_passWord 81 = .ok (.bipush 6, 2) := by decide +kernel
theorem dX9_passWord_83 : decode cX9_passWord 83 = .ok (.ireturn, 1) := by decide +kernel
theorem dX9_isWord_0 : decode cX9_isWord 0 = .ok (.aload_n 0, 1) := by decide +kernel
theorem dX9_isWord_1 : decode cX9_isWord 1 = .ok (.getfield 32, 3) := by decide +kernel
theorem dX9_isWord_4 : decode cX9_isWord 4 = .ok (.iload_n 1, 1) := by decide +kernel
theorem dX9_isWord_5 : decode cX9_isWord 5 = .ok (.isub, 1) := by decide +kernel
theorem dX9_isWord_6 : decode cX9_isWord 6 = .ok (.aload_n 2, 1) := by decide +kernel
theorem dX9_isWord_7 : decode cX9_isWord 7 = .ok (.invokevirtual 69, 3) := by decide +kernel
theorem dX9_isWord_10 : decode cX9_isWord 10 = .ok (.if_icmp .eq 5, 3) := by decide +kernel
theorem dX9_isWord_13 : decode cX9_isWord 13 = .ok (.iconst 0, 1) := by decide +kernel
theorem dX9_isWord_14 : decode cX9_isWord 14 = .ok (.ireturn, 1) := by decide +kernel
theorem dX9_isWord_15 : decode cX9_isWord 15 = .ok (.iconst 0, 1) := by decide +kernel
theorem dX9_isWord_16 : decode cX9_isWord 16 = .ok (.istore_n 3, 1) := by decide +kernel
theorem dX9_isWord_17 : decode cX9_isWord 17 = .ok (.iload_n 3, 1) := by decide +kernel
theorem dX9_isWord_18 : decode cX9_isWord 18 = .ok (.aload_n 2, 1) := by decide +kernel
theorem dX9_isWord_19 : decode cX9_isWord 19 = .ok (.invokevirtual 69, 3) := by decide +kernel
theorem dX9_isWord_22 : decode cX9_isWord 22 = .ok (.if_icmp .ge 26, 3) := by decide +kernel
theorem dX9_isWord_25 : decode cX9_isWord 25 = .ok (.aload_n 0, 1) := by decide +kernel
theorem dX9_isWord_26 : decode cX9_isWord 26 = .ok (.iload_n 1, 1) := by decide +kernel
theorem dX9_isWord_27 : decode cX9_isWord 27 = .ok (.iload_n 3, 1) := by decide +kernel
theorem dX9_isWord_28 : decode cX9_isWord 28 = .ok (.iadd, 1) := by decide +kernel
theorem dX9_isWord_29 : decode cX9_isWord 29 = .ok (.invokevirtual 38, 3) := by decide +kernel
theorem dX9_isWord_32 : decode cX9_isWord 32 = .ok (.aload_n 2, 1) := by decide +kernel
theorem dX9_isWord_33 : decode cX9_isWord 33 = .ok (.iload_n 3, 1) := by decide +kernel
theorem dX9_isWord_34 : decode cX9_isWord 34 = .ok (.invokevirtual 74, 3) := by decide +kernel
theorem dX9_isWord_37 : decode cX9_isWord 37 = .ok (.if_icmp .eq 5, 3) := by decide +kernel
theorem dX9_isWord_40 : decode cX9_isWord 40 = .ok (.iconst 0, 1) := by decide +kernel
theorem dX9_isWord_41 : decode cX9_isWord 41 = .ok (.ireturn, 1) := by decide +kernel
theorem dX9_isWord_42 : decode cX9_isWord 42 = .ok (.iinc 3 1, 3) := by decide +kernel
theorem dX9_isWord_45 : decode cX9_isWord 45 = .ok (.goto (-28), 3) := by decide +kernel
theorem dX9_isWord_48 : decode cX9_isWord 48 = .ok (.iconst 1, 1) := by decide +kernel
theorem dX9_isWord_49 : decode cX9_isWord 49 = .ok (.ireturn, 1) := by decide +kernel
theorem dX9_passNumber_0 : decode cX9_passNumber 0 = .ok (.aload_n 0, 1) := by decide +kernel
theorem dX9_passNumber_1 : decode cX9_passNumber 1 = .ok (.getfield 32, 3) := by decide +kernel
theorem dX9_passNumber_4 : decode cX9_passNumber 4 = .ok (.istore_n 1, 1) := by decide +kernel
theorem dX9_passNumber_5 : decode cX9_passNumber 5 = .ok (.iconst 0, 1) := by decide +kernel
theorem dX9_passNumber_6 : decode cX9_passNumber 6 = .ok (.istore_n 2, 1) := by decide +kernel
theorem dX9_passNumber_7 : decode cX9_passNumber 7 = .ok (.iconst 0, 1) := by decide +kernel
theorem dX9_passNumber_8 : decode cX9_passNumber 8 = .ok (.istore_n 3, 1) := by decide +kernel
theorem dX9_passNumber_9 : decode cX9_passNumber 9 = .ok (.iload_n 3, 1) := by decide +kernel
theorem dX9_passNumber_10 : decode cX9_passNumber 10 = .ok (.bipush 120, 2) := by decide +kernel
theorem dX9_passNumber_12 : decode cX9_passNumber 12 = .ok (.if_icmp .ge 55, 3) := by decide +kernel
theorem dX9_passNumber_15 : decode cX9_passNumber 15 = .ok (.aload_n 0, 1) := by decide +kernel
theorem dX9_passNumber_16 : decode cX9_passNumber 16 = .ok (.aload_n 0, 1) := by decide +kernel
theorem dX9_passNumber_17 : decode cX9_passNumber 17 = .ok (.getfield 32, 3) := by decide +kernel
theorem dX9_passNumber_20 : decode cX9_passNumber 20 = .ok (.invokevirtual 38, 3) := by decide +kernel
theorem dX9_passNumber_23 : decode cX9_passNumber 23 = .ok (.invokestatic 53, 3) := by decide +kernel
theorem dX9_passNumber_26 : decode cX9_passNumber 26 = .ok (.ifCond .eq 41, 3) := by decide +kernel
theorem dX9_passNumber_29 : decode cX9_passNumber 29 = .ok (.bipush 100, 2) := by decide +kernel
theorem dX9_passNumber_31 : decode cX9_passNumber 31 = .ok (.iload_n 2, 1) := by decide +kernel
theorem dX9_passNumber_32 : decode cX9_passNumber 32 = .ok (.bipush 10, 2) := by decide +kernel
theorem dX9_passNumber_34 : decode cX9_passNumber 34 = .ok (.imul, 1) := by decide +kernel
theorem dX9_passNumber_35 : decode cX9_passNumber 35 = .ok (.aload_n 0, 1) := by decide +kernel
theorem dX9_passNumber_36 : decode cX9_passNumber 36 = .ok (.aload_n 0, 1) := by decide +kernel
theorem dX9_passNumber_37 : decode cX9_passNumber 37 = .ok (.getfield 32, 3) := by decide +kernel
theorem dX9_passNumber_40 : decode cX9_passNumber 40 = .ok (.invokevirtual 38, 3) := by decide +kernel
theorem dX9_passNumber_43 : decode cX9_passNumber 43 = .ok (.iadd, 1) := by decide +kernel
theorem dX9_passNumber_44 : decode cX9_passNumber 44 = .ok (.bipush 48, 2) := by decide +kernel
theorem dX9_passNumber_46 : decode cX9_passNumber 46 = .ok (.isub, 1) := by decide +kernel
theorem dX9_passNumber_47 : decode cX9_passNumber 47 = .ok (.invokestatic 78, 3) := by decide +kernel
theorem dX9_passNumber_50 : decode cX9_passNumber 50 = .ok (.istore_n 2, 1) := by decide +kernel
theorem dX9_passNumber_51 : decode cX9_passNumber 51 = .ok (.aload_n 0, 1) := by decide +kernel
theorem dX9_passNumber_52 : decode cX9_passNumber 52 = .ok (.dup, 1) := by decide +kernel
theorem dX9_passNumber_53 : decode cX9_passNumber 53 = .ok (.getfield 32, 3) := by decide +kernel
theorem dX9_passNumber_56 : decode cX9_passNumber 56 = .ok (.iconst 1, 1) := by decide +kernel
theorem dX9_passNumber_57 : decode cX9_passNumber 57 = .ok (.iadd, 1) := by decide +kernel
theorem dX9_passNumber_58 : decode cX9_passNumber 58 = .ok (.putfield 32, 3) := by decide +kernel
theorem dX9_passNumber_61 : decode cX9_passNumber 61 = .ok (.iinc 3 1, 3) := by decide +kernel
theorem dX9_passNumber_64 : decode cX9_passNumber 64 = .ok (.goto (-55), 3) := by decide +kernel
theorem dX9_passNumber_67 : decode cX9_passNumber 67 = .ok (.aload_n 0, 1) := by decide +kernel
theorem dX9_passNumber_68 : decode cX9_passNumber 68 = .ok (.iload_n 1, 1) := by decide +kernel
theorem dX9_passNumber_69 : decode cX9_passNumber 69 = .ok (.invokevirtual 38, 3) := by decide +kernel
theorem dX9_passNumber_72 : decode cX9_passNumber 72 = .ok (.bipush 48, 2) := by decide +kernel
theorem dX9_passNumber_74 : decode cX9_passNumber 74 = .ok (.if_icmp .ne 17, 3) := by decide +kernel
theorem dX9_passNumber_77 : decode cX9_passNumber 77 = .ok (.aload_n 0, 1) := by decide +kernel
theorem dX9_passNumber_78 : decode cX9_passNumber 78 = .ok (.getfield 32, 3) := by decide +kernel
theorem dX9_passNumber_81 : decode cX9_passNumber 81 = .ok (.iload_n 1, 1) := by decide +kernel
theorem dX9_passNumber_82 : decode cX9_passNumber 82 = .ok (.isub, 1) := by decide +kernel
theorem dX9_passNumber_83 : decode cX9_passNumber 83 = .ok (.iconst 1, 1) := by decide +kernel
theorem dX9_passNumber_84 : decode cX9_passNumber 84 = .ok (.if_icmp .le 7, 3) := by decide +kernel
theorem dX9_passNumber_87 : decode cX9_passNumber 87 = .ok (.iconst 1, 1) := by decide +kernel
theorem dX9_passNumber_88 : decode cX9_passNumber 88 = .ok (.goto 4, 3) := by decide +kernel
theorem dX9_passNumber_91 : decode cX9_passNumber 91 = .ok (.iconst 0, 1) := by decide +kernel
theorem dX9_passNumber_92 : decode cX9_passNumber 92 = .ok (.istore_n 3, 1) := by decide +kernel
theorem dX9_passNumber_93 : decode cX9_passNumber 93 = .ok (.iload_n 3, 1) := by decide +kernel
theorem dX9_passNumber_94 : decode cX9_passNumber 94 = .ok (.ifCond .eq 8, 3) := by decide +kernel
theorem dX9_passNumber_97 : decode cX9_passNumber 97 = .ok (.bipush 100, 2) := by decide +kernel
theorem dX9_passNumber_99 : decode cX9_passNumber 99 = .ok (.goto 4, 3) := by decide +kernel
theorem dX9_passNumber_102 : decode cX9_passNumber 102 = .ok (.iload_n 2, 1) := by decide +kernel
theorem dX9_passNumber_103 : decode cX9_passNumber 103 = .ok (.ireturn, 1) := by decide +kernel
theorem dX9_isToken_0 : decode cX9_isToken 0 = .ok (.iload_n 1, 1) := by decide +kernel
theorem dX9_isToken_1 : decode cX9_isToken 1 = .ok (.ifCond .lt 21, 3) := by decide +kernel
theorem dX9_isToken_4 : decode cX9_isToken 4 = .ok (.iload_n 1, 1) := by decide +kernel
theorem dX9_isToken_5 : decode cX9_isToken 5 = .ok (.aload_n 0, 1) := by decide +kernel
theorem dX9_isToken_6 : decode cX9_isToken 6 = .ok (.getfield 35, 3) := by decide +kernel
theorem dX9_isToken_9 : decode cX9_isToken 9 = .ok (.if_icmp .ge 13, 3) := by decide +kernel
theorem dX9_isToken_12 : decode cX9_isToken 12 = .ok (.iload_n 1, 1) := by decide +kernel
theorem dX9_isToken_13 : decode cX9_isToken 13 = .ok (.bipush 120, 2) := by decide +kernel
theorem dX9_isToken_15 : decode cX9_isToken 15 = .ok (.if_icmp .ge 7, 3) := by decide +kernel
theorem dX9_isToken_18 : decode cX9_isToken 18 = .ok (.iconst 1, 1) := by decide +kernel
theorem dX9_isToken_19 : decode cX9_isToken 19 = .ok (.goto 4, 3) := by decide +kernel
theorem dX9_isToken_22 : decode cX9_isToken 22 = .ok (.iconst 0, 1) := by decide +kernel
theorem dX9_isToken_23 : decode cX9_isToken 23 = .ok (.ireturn, 1) := by decide +kernel
theorem dX9_letterAt_0 : decode cX9_letterAt 0 = .ok (.iload_n 1, 1) := by decide +kernel
theorem dX9_letterAt_1 : decode cX9_letterAt 1 = .ok (.ifCond .lt 26, 3) := by decide +kernel
theorem dX9_letterAt_4 : decode cX9_letterAt 4 = .ok (.iload_n 1, 1) := by decide +kernel
theorem dX9_letterAt_5 : decode cX9_letterAt 5 = .ok (.aload_n 0, 1) := by decide +kernel
theorem dX9_letterAt_6 : decode cX9_letterAt 6 = .ok (.getfield 15, 3) := by decide +kernel
theorem dX9_letterAt_9 : decode cX9_letterAt 9 = .ok (.if_icmp .ge 18, 3) := by decide +kernel
theorem dX9_letterAt_12 : decode cX9_letterAt 12 = .ok (.iload_n 1, 1) := by decide +kernel
theorem dX9_letterAt_13 : decode cX9_letterAt 13 = .ok (.bipush 120, 2) := by decide +kernel
theorem dX9_letterAt_15 : decode cX9_letterAt 15 = .ok (.if_icmp .ge 12, 3) := by decide +kernel
theorem dX9_letterAt_18 : decode cX9_letterAt 18 = .ok (.aload_n 0, 1) := by decide +kernel
theorem dX9_letterAt_19 : decode cX9_letterAt 19 = .ok (.getfield 9, 3) := by decide +kernel
theorem dX9_letterAt_22 : decode cX9_letterAt 22 = .ok (.iload_n 1, 1) := by decide +kernel
theorem dX9_letterAt_23 : decode cX9_letterAt 23 = .ok (.iaload, 1) := by decide +kernel
theorem dX9_letterAt_24 : decode cX9_letterAt 24 = .ok (.goto 4, 3) := by decide +kernel
theorem dX9_letterAt_27 : decode cX9_letterAt 27 = .ok (.iconst (-1), 1) := by decide +kernel
theorem dX9_letterAt_28 : decode cX9_letterAt 28 = .ok (.ireturn, 1) := by decide +kernel
theorem dX9_isSmall_0 : decode cX9_isSmall 0 = .ok (.iload_n 0, 1) := by decide +kernel
theorem dX9_isSmall_1 : decode cX9_isSmall 1 = .ok (.bipush 97, 2) := by decide +kernel
theorem dX9_isSmall_3 : decode cX9_isSmall 3 = .ok (.if_icmp .lt 13, 3) := by decide +kernel
theorem dX9_isSmall_6 : decode cX9_isSmall 6 = .ok (.iload_n 0, 1) := by decide +kernel
theorem dX9_isSmall_7 : decode cX9_isSmall 7 = .ok (.bipush 122, 2) := by decide +kernel
theorem dX9_isSmall_9 : decode cX9_isSmall 9 = .ok (.if_icmp .gt 7, 3) := by decide +kernel
theorem dX9_isSmall_12 : decode cX9_isSmall 12 = .ok (.iconst 1, 1) := by decide +kernel
theorem dX9_isSmall_13 : decode cX9_isSmall 13 = .ok (.goto 4, 3) := by decide +kernel
theorem dX9_isSmall_16 : decode cX9_isSmall 16 = .ok (.iconst 0, 1) := by decide +kernel
theorem dX9_isSmall_17 : decode cX9_isSmall 17 = .ok (.ireturn, 1) := by decide +kernel
theorem dX9_isFigure_0 : decode cX9_isFigure 0 = .ok (.iload_n 0, 1) := by decide +kernel
theorem dX9_isFigure_1 : decode cX9_isFigure 1 = .ok (.bipush 48, 2) := by decide +kernel
theorem dX9_isFigure_3 : decode cX9_isFigure 3 = .ok (.if_icmp .lt 13, 3) := by decide +kernel
theorem dX9_isFigure_6 : decode cX9_isFigure 6 = .ok (.iload_n 0, 1) := by decide +kernel
theorem dX9_isFigure_7 : decode cX9_isFigure 7 = .ok (.bipush 57, 2) := by decide +kernel
theorem dX9_isFigure_9 : decode cX9_isFigure 9 = .ok (.if_icmp .gt 7, 3) := by decide +kernel
theorem dX9_isFigure_12 : decode cX9_isFigure 12 = .ok (.iconst 1, 1) := by decide +kernel
theorem dX9_isFigure_13 : decode cX9_isFigure 13 = .ok (.goto 4, 3) := by decide +kernel
theorem dX9_isFigure_16 : decode cX9_isFigure 16 = .ok (.iconst 0, 1) := by decide +kernel
theorem dX9_isFigure_17 : decode cX9_isFigure 17 = .ok (.ireturn, 1) := by decide +kernel
theorem dX10_init_0 : decode cX10_init 0 = .ok (.aload_n 0, 1) := by decide +kernel
theorem dX10_init_1 : decode cX10_init 1 = .ok (.invokespecial 3, 3) := by decide +kernel
theorem dX10_init_4 : decode cX10_init 4 = .ok (.aload_n 0, 1) := by decide +kernel
theorem dX10_init_5 : decode cX10_init 5 = .ok (.bipush 40, 2) := by decide +kernel
theorem dX10_init_7 : decode cX10_init 7 = .ok (.newarray .int, 2) := by decide +kernel
theorem dX10_init_9 : decode cX10_init 9 = .ok (.putfield 9, 3) := by decide +kernel
theorem dX10_init_12 : decode cX10_init 12 = .ok (.aload_n 0, 1) := by decide +kernel
theorem dX10_init_13 : decode cX10_init 13 = .ok (.bipush 40, 2) := by decide +kernel
theorem dX10_init_15 : decode cX10_init 15 = .ok (.newarray .int, 2) := by decide +kernel
theorem dX10_init_17 : decode cX10_init 17 = .ok (.putfield 15, 3) := by decide +kernel
theorem dX10_init_20 : decode cX10_init 20 = .ok (.aload_n 0, 1) := by decide +kernel
theorem dX10_init_21 : decode cX10_init 21 = .ok (.bipush 40, 2) := by decide +kernel
theorem dX10_init_23 : decode cX10_init 23 = .ok (.newarray .int, 2) := by decide +kernel
theorem dX10_init_25 : decode cX10_init 25 = .ok (.putfield 18, 3) := by decide +kernel
theorem dX10_init_28 : decode cX10_init 28 = .ok (.aload_n 0, 1) := by decide +kernel
theorem dX10_init_29 : decode cX10_init 29 = .ok (.bipush 40, 2) := by decide +kernel
theorem dX10_init_31 : decode cX10_init 31 = .ok (.newarray .int, 2) := by decide +kernel
theorem dX10_init_33 : decode cX10_init 33 = .ok (.putfield 21, 3) := by decide +kernel
theorem dX10_init_36 : decode cX10_init 36 = .ok (.aload_n 0, 1) := by decide +kernel
theorem dX10_init_37 : decode cX10_init 37 = .ok (.bipush 40, 2) := by decide +kernel
theorem dX10_init_39 : decode cX10_init 39 = .ok (.newarray .int, 2) := by decide +kernel
theorem dX10_init_41 : decode cX10_init 41 = .ok (.putfield 24, 3) := by decide +kernel
theorem dX10_init_44 : decode cX10_init 44 = .ok (.return_, 1) := by decide +kernel
theorem dX10_through_0 : decode cX10_through 0 = .ok (.aload_n 0, 1) := by decide +kernel
theorem dX10_through_1 : decode cX10_through 1 = .ok (.aload_n 1, 1) := by decide +kernel
theorem dX10_through_2 : decode cX10_through 2 = .ok (.getfield 27, 3) := by decide +kernel
theorem dX10_through_5 : decode cX10_through 5 = .ok (.aload_n 1, 1) := by decide +kernel
theorem dX10_through_6 : decode cX10_through 6 = .ok (.getfield 33, 3) := by decide +kernel
theorem dX10_through_9 : decode cX10_through 9 = .ok (.invokevirtual 37, 3) := by decide +kernel
theorem dX10_through_12 : decode cX10_through 12 = .ok (.aload_n 0, 1) := by decide +kernel
theorem dX10_through_13 : decode cX10_through 13 = .ok (.aload_n 1, 1) := by decide +kernel
theorem dX10_through_14 : decode cX10_through 14 = .ok (.getfield 27, 3) := by decide +kernel
theorem dX10_through_17 : decode cX10_through 17 = .ok (.aload_n 1, 1) := by decide +kernel
theorem dX10_through_18 : decode cX10_through 18 = .ok (.getfield 33, 3) := by decide +kernel
theorem dX10_through_21 : decode cX10_through 21 = .ok (.invokevirtual 41, 3) := by decide +kernel
theorem dX10_through_24 : decode cX10_through 24 = .ok (.return_, 1) := by decide +kernel
theorem dX10_ruleByRule_0 : decode cX10_ruleByRule 0 = .ok (.iconst 0, 1) := by decide +kernel
theorem dX10_ruleByRule_1 : decode cX10_ruleByRule 1 = .ok (.istore_n 3, 1) := by decide +kernel
theorem dX10_ruleByRule_2 : decode cX10_ruleByRule 2 = .ok (.iconst 0, 1) := by decide +kernel
theorem dX10_ruleByRule_3 : decode cX10_ruleByRule 3 = .ok (.istore 4, 2) := by decide +kernel
theorem dX10_ruleByRule_5 : decode cX10_ruleByRule 5 = .ok (.iload 4, 2) := by decide +kernel
theorem dX10_ruleByRule_7 : decode cX10_ruleByRule 7 = .ok (.aload_n 2, 1) := by decide +kernel
theorem dX10_ruleByRule_8 : decode cX10_ruleByRule 8 = .ok (.getfield 44, 3) := by decide +kernel
theorem dX10_ruleByRule_11 : decode cX10_ruleByRule 11 = .ok (.if_icmp .ge 55, 3) := by decide +kernel
theorem dX10_ruleByRule_14 : decode cX10_ruleByRule 14 = .ok (.iload 4, 2) := by decide +kernel
theorem dX10_ruleByRule_16 : decode cX10_ruleByRule 16 = .ok (.bipush 40, 2) := by decide +kernel
theorem dX10_ruleByRule_18 : decode cX10_ruleByRule 18 = .ok (.if_icmp .ge 48, 3) := by decide +kernel
theorem dX10_ruleByRule_21 : decode cX10_ruleByRule 21 = .ok (.aload_n 1, 1) := by decide +kernel
theorem dX10_ruleByRule_22 : decode cX10_ruleByRule 22 = .ok (.iload_n 3, 1) := by decide +kernel
theorem dX10_ruleByRule_23 : decode cX10_ruleByRule 23 = .ok (.aload_n 2, 1) := by decide +kernel
theorem dX10_ruleByRule_24 : decode cX10_ruleByRule 24 = .ok (.getfield 50, 3) := by decide +kernel
theorem dX10_ruleByRule_27 : decode cX10_ruleByRule 27 = .ok (.iload 4, 2) := by decide +kernel
theorem dX10_ruleByRule_29 : decode cX10_ruleByRule 29 = .ok (.iaload, 1) := by decide +kernel
theorem dX10_ruleByRule_30 : decode cX10_ruleByRule 30 = .ok (.invokevirtual 53, 3) := by decide +kernel
theorem dX10_ruleByRule_33 : decode cX10_ruleByRule 33 = .ok (.istore 5, 2) := by decide +kernel
theorem dX10_ruleByRule_35 : decode cX10_ruleByRule 35 = .ok (.aload_n 0, 1) := by decide +kernel
theorem dX10_ruleByRule_36 : decode cX10_ruleByRule 36 = .ok (.getfield 9, 3) := by decide +kernel
theorem dX10_ruleByRule_39 : decode cX10_ruleByRule 39 = .ok (.iload 4, 2) := by decide +kernel
theorem dX10_ruleByRule_41 : decode cX10_ruleByRule 41 = .ok (.iload 5, 2) := by decide +kernel
theorem dX10_ruleByRule_43 : decode cX10_ruleByRule 43 = .ok (.bipush 7, 2) := by decide +kernel
theorem dX10_ruleByRule_45 : decode cX10_ruleByRule 45 = .ok (.iand, 1) := by decide +kernel
theorem dX10_ruleByRule_46 : decode cX10_ruleByRule 46 = .ok (.iastore, 1) := by decide +kernel
theorem dX10_ruleByRule_47 : decode cX10_ruleByRule 47 = .ok (.iload 5, 2) := by decide +kernel
theorem dX10_ruleByRule_49 : decode cX10_ruleByRule 49 = .ok (.iconst 3, 1) := by decide +kernel
theorem dX10_ruleByRule_50 : decode cX10_ruleByRule 50 = .ok (.ishr, 1) := by decide +kernel
theorem dX10_ruleByRule_51 : decode cX10_ruleByRule 51 = .ok (.istore_n 3, 1) := by decide +kernel
theorem dX10_ruleByRule_52 : decode cX10_ruleByRule 52 = .ok (.aload_n 0, 1) := by decide +kernel
theorem dX10_ruleByRule_53 : decode cX10_ruleByRule 53 = .ok (.getfield 15, 3) := by decide +kernel
theorem dX10_ruleByRule_56 : decode cX10_ruleByRule 56 = .ok (.iload 4, 2) := by decide +kernel
theorem dX10_ruleByRule_58 : decode cX10_ruleByRule 58 = .ok (.iload_n 3, 1) := by decide +kernel
theorem dX10_ruleByRule_59 : decode cX10_ruleByRule 59 = .ok (.iastore, 1) := by decide +kernel
theorem dX10_ruleByRule_60 : decode cX10_ruleByRule 60 = .ok (.iinc 4 1, 3) := by decide +kernel
theorem dX10_ruleByRule_63 : decode cX10_ruleByRule 63 = .ok (.goto (-58), 3) := by decide +kernel
theorem dX10_ruleByRule_66 : decode cX10_ruleByRule 66 = .ok (.return_, 1) := by decide +kernel
theorem dX10_sumBySum_0 : decode cX10_sumBySum 0 = .ok (.iconst 0, 1) := by decide +kernel
theorem dX10_sumBySum_1 : decode cX10_sumBySum 1 = .ok (.istore_n 3, 1) := by decide +kernel
theorem dX10_sumBySum_2 : decode cX10_sumBySum 2 = .ok (.iconst 0, 1) := by decide +kernel
theorem dX10_sumBySum_3 : decode cX10_sumBySum 3 = .ok (.istore 4, 2) := by decide +kernel
theorem dX10_sumBySum_5 : decode cX10_sumBySum 5 = .ok (.iconst 0, 1) := by decide +kernel
theorem dX10_sumBySum_6 : decode cX10_sumBySum 6 = .ok (.istore 5, 2) := by decide +kernel
theorem dX10_sumBySum_8 : decode cX10_sumBySum 8 = .ok (.iload 5, 2) := by decide +kernel
theorem dX10_sumBySum_10 : decode cX10_sumBySum 10 = .ok (.aload_n 2, 1) := by decide +kernel
theorem dX10_sumBySum_11 : decode cX10_sumBySum 11 = .ok (.getfield 44, 3) := by decide +kernel
theorem dX10_sumBySum_14 : decode cX10_sumBySum 14 = .ok (.if_icmp .ge 112, 3) := by decide +kernel
theorem dX10_sumBySum_17 : decode cX10_sumBySum 17 = .ok (.iload 5, 2) := by decide +kernel
theorem dX10_sumBySum_19 : decode cX10_sumBySum 19 = .ok (.bipush 40, 2) := by decide +kernel
theorem dX10_sumBySum_21 : decode cX10_sumBySum 21 = .ok (.if_icmp .ge 105, 3) := by decide +kernel
theorem dX10_sumBySum_24 : decode cX10_sumBySum 24 = .ok (.aload_n 2, 1) := by decide +kernel
theorem dX10_sumBySum_25 : decode cX10_sumBySum 25 = .ok (.getfield 50, 3) := by decide +kernel
theorem dX10_sumBySum_28 : decode cX10_sumBySum 28 = .ok (.iload 5, 2) := by decide +kernel
theorem dX10_sumBySum_30 : decode cX10_sumBySum 30 = .ok (.iaload, 1) := by decide +kernel
theorem dX10_sumBySum_31 : decode cX10_sumBySum 31 = .ok (.iconst 2, 1) := by decide +kernel
theorem dX10_sumBySum_32 : decode cX10_sumBySum 32 = .ok (.isub, 1) := by decide +kernel
theorem dX10_sumBySum_33 : decode cX10_sumBySum 33 = .ok (.istore 6, 2) := by decide +kernel
theorem dX10_sumBySum_35 : decode cX10_sumBySum 35 = .ok (.iconst 0, 1) := by decide +kernel
theorem dX10_sumBySum_36 : decode cX10_sumBySum 36 = .ok (.iload_n 3, 1) := by decide +kernel
