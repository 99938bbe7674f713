theorem dX12_scan_284 : decode cX12_scan 284 = .ok (.goto 28, 3) := by decide +kernel
theorem dX12_scan_287 : decode cX12_scan 287 = .ok (.aload_n 0, 1) := by decide +kernel
theorem dX12_scan_288 : decode cX12_scan 288 = .ok (.iload_n 1, 1) := by decide +kernel
theorem dX12_scan_289 : decode cX12_scan 289 = .ok (.bipush 59, 2) := by decide +kernel
theorem dX12_scan_291 : decode cX12_scan 291 = .ok (.if_icmp .ne 7, 3) := by decide +kernel
theorem dX12_scan_294 : decode cX12_scan 294 = .ok (.iload_n 1, 1) := by decide +kernel
theorem dX12_scan_295 : decode cX12_scan 295 = .ok (.goto 4, 3) := by decide +kernel
theorem dX12_scan_298 : decode cX12_scan 298 = .ok (.iconst 3, 1) := by decide +kernel
theorem dX12_scan_299 : decode cX12_scan 299 = .ok (.putfield 105, 3) := by decide +kernel
theorem dX12_scan_302 : decode cX12_scan 302 = .ok (.aload_n 0, 1) := by decide +kernel
theorem dX12_scan_303 : decode cX12_scan 303 = .ok (.dup, 1) := by decide +kernel
theorem dX12_scan_304 : decode cX12_scan 304 = .ok (.getfield 99, 3) := by decide +kernel
theorem dX12_scan_307 : decode cX12_scan 307 = .ok (.iconst 1, 1) := by decide +kernel
theorem dX12_scan_308 : decode cX12_scan 308 = .ok (.iadd, 1) := by decide +kernel
theorem dX12_scan_309 : decode cX12_scan 309 = .ok (.putfield 99, 3) := by decide +kernel
theorem dX12_scan_312 : decode cX12_scan 312 = .ok (.return_, 1) := by decide +kernel
theorem dX12_scanNumber_0 : decode cX12_scanNumber 0 = .ok (.aload_n 0, 1) := by decide +kernel
theorem dX12_scanNumber_1 : decode cX12_scanNumber 1 = .ok (.invokevirtual 122, 3) := by decide +kernel
theorem dX12_scanNumber_4 : decode cX12_scanNumber 4 = .ok (.aload_n 0, 1) := by decide +kernel
theorem dX12_scanNumber_5 : decode cX12_scanNumber 5 = .ok (.getfield 105, 3) := by decide +kernel
theorem dX12_scanNumber_8 : decode cX12_scanNumber 8 = .ok (.iconst 1, 1) := by decide +kernel
theorem dX12_scanNumber_9 : decode cX12_scanNumber 9 = .ok (.if_icmp .ne 19, 3) := by decide +kernel
theorem dX12_scanNumber_12 : decode cX12_scanNumber 12 = .ok (.aload_n 0, 1) := by decide +kernel
theorem dX12_scanNumber_13 : decode cX12_scanNumber 13 = .ok (.getfield 112, 3) := by decide +kernel
theorem dX12_scanNumber_16 : decode cX12_scanNumber 16 = .ok (.iload_n 1, 1) := by decide +kernel
theorem dX12_scanNumber_17 : decode cX12_scanNumber 17 = .ok (.iload_n 2, 1) := by decide +kernel
theorem dX12_scanNumber_18 : decode cX12_scanNumber 18 = .ok (.invokestatic 87, 3) := by decide +kernel
theorem dX12_scanNumber_21 : decode cX12_scanNumber 21 = .ok (.ifCond .eq 7, 3) := by decide +kernel
theorem dX12_scanNumber_24 : decode cX12_scanNumber 24 = .ok (.iconst 1, 1) := by decide +kernel
theorem dX12_scanNumber_25 : decode cX12_scanNumber 25 = .ok (.goto 4, 3) := by decide +kernel
theorem dX12_scanNumber_28 : decode cX12_scanNumber 28 = .ok (.iconst 0, 1) := by decide +kernel
theorem dX12_scanNumber_29 : decode cX12_scanNumber 29 = .ok (.ireturn, 1) := by decide +kernel
theorem dX12_width_0 : decode cX12_width 0 = .ok (.iconst 0, 1) := by decide +kernel
theorem dX12_width_1 : decode cX12_width 1 = .ok (.istore_n 1, 1) := by decide +kernel
theorem dX12_width_2 : decode cX12_width 2 = .ok (.iconst 0, 1) := by decide +kernel
theorem dX12_width_3 : decode cX12_width 3 = .ok (.istore_n 2, 1) := by decide +kernel
theorem dX12_width_4 : decode cX12_width 4 = .ok (.iload_n 2, 1) := by decide +kernel
theorem dX12_width_5 : decode cX12_width 5 = .ok (.aload_n 0, 1) := by decide +kernel
theorem dX12_width_6 : decode cX12_width 6 = .ok (.getfield 13, 3) := by decide +kernel
theorem dX12_width_9 : decode cX12_width 9 = .ok (.iconst 0, 1) := by decide +kernel
theorem dX12_width_10 : decode cX12_width 10 = .ok (.iaload, 1) := by decide +kernel
theorem dX12_width_11 : decode cX12_width 11 = .ok (.if_icmp .ge 26, 3) := by decide +kernel
theorem dX12_width_14 : decode cX12_width 14 = .ok (.iload_n 1, 1) := by decide +kernel
theorem dX12_width_15 : decode cX12_width 15 = .ok (.aload_n 0, 1) := by decide +kernel
theorem dX12_width_16 : decode cX12_width 16 = .ok (.getfield 13, 3) := by decide +kernel
theorem dX12_width_19 : decode cX12_width 19 = .ok (.iconst 1, 1) := by decide +kernel
theorem dX12_width_20 : decode cX12_width 20 = .ok (.iconst 3, 1) := by decide +kernel
theorem dX12_width_21 : decode cX12_width 21 = .ok (.iload_n 2, 1) := by decide +kernel
theorem dX12_width_22 : decode cX12_width 22 = .ok (.imul, 1) := by decide +kernel
theorem dX12_width_23 : decode cX12_width 23 = .ok (.iadd, 1) := by decide +kernel
theorem dX12_width_24 : decode cX12_width 24 = .ok (.iconst 1, 1) := by decide +kernel
theorem dX12_width_25 : decode cX12_width 25 = .ok (.iadd, 1) := by decide +kernel
theorem dX12_width_26 : decode cX12_width 26 = .ok (.iaload, 1) := by decide +kernel
theorem dX12_width_27 : decode cX12_width 27 = .ok (.iconst 1, 1) := by decide +kernel
theorem dX12_width_28 : decode cX12_width 28 = .ok (.isub, 1) := by decide +kernel
theorem dX12_width_29 : decode cX12_width 29 = .ok (.iadd, 1) := by decide +kernel
theorem dX12_width_30 : decode cX12_width 30 = .ok (.istore_n 1, 1) := by decide +kernel
theorem dX12_width_31 : decode cX12_width 31 = .ok (.iinc 2 1, 3) := by decide +kernel
theorem dX12_width_34 : decode cX12_width 34 = .ok (.goto (-30), 3) := by decide +kernel
theorem dX12_width_37 : decode cX12_width 37 = .ok (.iload_n 1, 1) := by decide +kernel
theorem dX12_width_38 : decode cX12_width 38 = .ok (.ireturn, 1) := by decide +kernel
theorem dX12_readRule_0 : decode cX12_readRule 0 = .ok (.aload_n 0, 1) := by decide +kernel
theorem dX12_readRule_1 : decode cX12_readRule 1 = .ok (.getfield 13, 3) := by decide +kernel
theorem dX12_readRule_4 : decode cX12_readRule 4 = .ok (.iconst 0, 1) := by decide +kernel
theorem dX12_readRule_5 : decode cX12_readRule 5 = .ok (.iaload, 1) := by decide +kernel
theorem dX12_readRule_6 : decode cX12_readRule 6 = .ok (.iconst 3, 1) := by decide +kernel
theorem dX12_readRule_7 : decode cX12_readRule 7 = .ok (.if_icmp .eq 12, 3) := by decide +kernel
theorem dX12_readRule_10 : decode cX12_readRule 10 = .ok (.aload_n 0, 1) := by decide +kernel
theorem dX12_readRule_11 : decode cX12_readRule 11 = .ok (.iconst 1, 1) := by decide +kernel
theorem dX12_readRule_12 : decode cX12_readRule 12 = .ok (.iconst 4, 1) := by decide +kernel
theorem dX12_readRule_13 : decode cX12_readRule 13 = .ok (.invokevirtual 125, 3) := by decide +kernel
theorem dX12_readRule_16 : decode cX12_readRule 16 = .ok (.ifCond .ne 5, 3) := by decide +kernel
theorem dX12_readRule_19 : decode cX12_readRule 19 = .ok (.iconst 0, 1) := by decide +kernel
theorem dX12_readRule_20 : decode cX12_readRule 20 = .ok (.ireturn, 1) := by decide +kernel
theorem dX12_readRule_21 : decode cX12_readRule 21 = .ok (.aload_n 0, 1) := by decide +kernel
theorem dX12_readRule_22 : decode cX12_readRule 22 = .ok (.getfield 112, 3) := by decide +kernel
theorem dX12_readRule_25 : decode cX12_readRule 25 = .ok (.istore_n 1, 1) := by decide +kernel
theorem dX12_readRule_26 : decode cX12_readRule 26 = .ok (.bipush 7, 2) := by decide +kernel
theorem dX12_readRule_28 : decode cX12_readRule 28 = .ok (.aload_n 0, 1) := by decide +kernel
theorem dX12_readRule_29 : decode cX12_readRule 29 = .ok (.invokevirtual 129, 3) := by decide +kernel
theorem dX12_readRule_32 : decode cX12_readRule 32 = .ok (.isub, 1) := by decide +kernel
theorem dX12_readRule_33 : decode cX12_readRule 33 = .ok (.istore_n 2, 1) := by decide +kernel
theorem dX12_readRule_34 : decode cX12_readRule 34 = .ok (.aload_n 0, 1) := by decide +kernel
theorem dX12_readRule_35 : decode cX12_readRule 35 = .ok (.iload_n 1, 1) := by decide +kernel
theorem dX12_readRule_36 : decode cX12_readRule 36 = .ok (.iload_n 2, 1) := by decide +kernel
theorem dX12_readRule_37 : decode cX12_readRule 37 = .ok (.iconst 4, 1) := by decide +kernel
theorem dX12_readRule_38 : decode cX12_readRule 38 = .ok (.if_icmp .ge 7, 3) := by decide +kernel
theorem dX12_readRule_41 : decode cX12_readRule 41 = .ok (.iload_n 2, 1) := by decide +kernel
theorem dX12_readRule_42 : decode cX12_readRule 42 = .ok (.goto 4, 3) := by decide +kernel
theorem dX12_readRule_45 : decode cX12_readRule 45 = .ok (.iconst 4, 1) := by decide +kernel
theorem dX12_readRule_46 : decode cX12_readRule 46 = .ok (.invokevirtual 125, 3) := by decide +kernel
theorem dX12_readRule_49 : decode cX12_readRule 49 = .ok (.ifCond .ne 5, 3) := by decide +kernel
theorem dX12_readRule_52 : decode cX12_readRule 52 = .ok (.iconst 0, 1) := by decide +kernel
theorem dX12_readRule_53 : decode cX12_readRule 53 = .ok (.ireturn, 1) := by decide +kernel
theorem dX12_readRule_54 : decode cX12_readRule 54 = .ok (.aload_n 0, 1) := by decide +kernel
theorem dX12_readRule_55 : decode cX12_readRule 55 = .ok (.getfield 112, 3) := by decide +kernel
theorem dX12_readRule_58 : decode cX12_readRule 58 = .ok (.istore_n 3, 1) := by decide +kernel
theorem dX12_readRule_59 : decode cX12_readRule 59 = .ok (.aload_n 0, 1) := by decide +kernel
theorem dX12_readRule_60 : decode cX12_readRule 60 = .ok (.iconst 1, 1) := by decide +kernel
theorem dX12_readRule_61 : decode cX12_readRule 61 = .ok (.bipush 31, 2) := by decide +kernel
theorem dX12_readRule_63 : decode cX12_readRule 63 = .ok (.invokevirtual 125, 3) := by decide +kernel
theorem dX12_readRule_66 : decode cX12_readRule 66 = .ok (.ifCond .ne 5, 3) := by decide +kernel
theorem dX12_readRule_69 : decode cX12_readRule 69 = .ok (.iconst 0, 1) := by decide +kernel
theorem dX12_readRule_70 : decode cX12_readRule 70 = .ok (.ireturn, 1) := by decide +kernel
theorem dX12_readRule_71 : decode cX12_readRule 71 = .ok (.iconst 1, 1) := by decide +kernel
theorem dX12_readRule_72 : decode cX12_readRule 72 = .ok (.iconst 3, 1) := by decide +kernel
theorem dX12_readRule_73 : decode cX12_readRule 73 = .ok (.aload_n 0, 1) := by decide +kernel
theorem dX12_readRule_74 : decode cX12_readRule 74 = .ok (.getfield 13, 3) := by decide +kernel
theorem dX12_readRule_77 : decode cX12_readRule 77 = .ok (.iconst 0, 1) := by decide +kernel
theorem dX12_readRule_78 : decode cX12_readRule 78 = .ok (.iaload, 1) := by decide +kernel
theorem dX12_readRule_79 : decode cX12_readRule 79 = .ok (.imul, 1) := by decide +kernel
theorem dX12_readRule_80 : decode cX12_readRule 80 = .ok (.iadd, 1) := by decide +kernel
theorem dX12_readRule_81 : decode cX12_readRule 81 = .ok (.istore 4, 2) := by decide +kernel
theorem dX12_readRule_83 : decode cX12_readRule 83 = .ok (.aload_n 0, 1) := by decide +kernel
theorem dX12_readRule_84 : decode cX12_readRule 84 = .ok (.getfield 13, 3) := by decide +kernel
theorem dX12_readRule_87 : decode cX12_readRule 87 = .ok (.iload 4, 2) := by decide +kernel
theorem dX12_readRule_89 : decode cX12_readRule 89 = .ok (.iload_n 1, 1) := by decide +kernel
theorem dX12_readRule_90 : decode cX12_readRule 90 = .ok (.iastore, 1) := by decide +kernel
theorem dX12_readRule_91 : decode cX12_readRule 91 = .ok (.aload_n 0, 1) := by decide +kernel
theorem dX12_readRule_92 : decode cX12_readRule 92 = .ok (.getfield 13, 3) := by decide +kernel
theorem dX12_readRule_95 : decode cX12_readRule 95 = .ok (.iload 4, 2) := by decide +kernel
theorem dX12_readRule_97 : decode cX12_readRule 97 = .ok (.iconst 1, 1) := by decide +kernel
theorem dX12_readRule_98 : decode cX12_readRule 98 = .ok (.iadd, 1) := by decide +kernel
theorem dX12_readRule_99 : decode cX12_readRule 99 = .ok (.iload_n 3, 1) := by decide +kernel
theorem dX12_readRule_100 : decode cX12_readRule 100 = .ok (.iastore, 1) := by decide +kernel
theorem dX12_readRule_101 : decode cX12_readRule 101 = .ok (.aload_n 0, 1) := by decide +kernel
theorem dX12_readRule_102 : decode cX12_readRule 102 = .ok (.getfield 13, 3) := by decide +kernel
theorem dX12_readRule_105 : decode cX12_readRule 105 = .ok (.iload 4, 2) := by decide +kernel
theorem dX12_readRule_107 : decode cX12_readRule 107 = .ok (.iconst 2, 1) := by decide +kernel
theorem dX12_readRule_108 : decode cX12_readRule 108 = .ok (.iadd, 1) := by decide +kernel
theorem dX12_readRule_109 : decode cX12_readRule 109 = .ok (.aload_n 0, 1) := by decide +kernel
theorem dX12_readRule_110 : decode cX12_readRule 110 = .ok (.getfield 112, 3) := by decide +kernel
theorem dX12_readRule_113 : decode cX12_readRule 113 = .ok (.iastore, 1) := by decide +kernel
theorem dX12_readRule_114 : decode cX12_readRule 114 = .ok (.aload_n 0, 1) := by decide +kernel
theorem dX12_readRule_115 : decode cX12_readRule 115 = .ok (.getfield 13, 3) := by decide +kernel
theorem dX12_readRule_118 : decode cX12_readRule 118 = .ok (.iconst 0, 1) := by decide +kernel
theorem dX12_readRule_119 : decode cX12_readRule 119 = .ok (.dup2, 1) := by decide +kernel
theorem dX12_readRule_120 : decode cX12_readRule 120 = .ok (.iaload, 1) := by decide +kernel
theorem dX12_readRule_121 : decode cX12_readRule 121 = .ok (.iconst 1, 1) := by decide +kernel
theorem dX12_readRule_122 : decode cX12_readRule 122 = .ok (.iadd, 1) := by decide +kernel
theorem dX12_readRule_123 : decode cX12_readRule 123 = .ok (.iastore, 1) := by decide +kernel
theorem dX12_readRule_124 : decode cX12_readRule 124 = .ok (.iconst 1, 1) := by decide +kernel
theorem dX12_readRule_125 : decode cX12_readRule 125 = .ok (.ireturn, 1) := by decide +kernel
theorem dX12_readChance_0 : decode cX12_readChance 0 = .ok (.aload_n 0, 1) := by decide +kernel
theorem dX12_readChance_1 : decode cX12_readChance 1 = .ok (.getfield 133, 3) := by decide +kernel
theorem dX12_readChance_4 : decode cX12_readChance 4 = .ok (.ifCond .eq 5, 3) := by decide +kernel
theorem dX12_readChance_7 : decode cX12_readChance 7 = .ok (.iconst 0, 1) := by decide +kernel
theorem dX12_readChance_8 : decode cX12_readChance 8 = .ok (.ireturn, 1) := by decide +kernel
theorem dX12_readChance_9 : decode cX12_readChance 9 = .ok (.iconst 0, 1) := by decide +kernel
theorem dX12_readChance_10 : decode cX12_readChance 10 = .ok (.istore_n 1, 1) := by decide +kernel
theorem dX12_readChance_11 : decode cX12_readChance 11 = .ok (.iconst 0, 1) := by decide +kernel
theorem dX12_readChance_12 : decode cX12_readChance 12 = .ok (.istore_n 2, 1) := by decide +kernel
theorem dX12_readChance_13 : decode cX12_readChance 13 = .ok (.iload_n 2, 1) := by decide +kernel
theorem dX12_readChance_14 : decode cX12_readChance 14 = .ok (.iconst 5, 1) := by decide +kernel
theorem dX12_readChance_15 : decode cX12_readChance 15 = .ok (.if_icmp .ge 41, 3) := by decide +kernel
theorem dX12_readChance_18 : decode cX12_readChance 18 = .ok (.aload_n 0, 1) := by decide +kernel
theorem dX12_readChance_19 : decode cX12_readChance 19 = .ok (.iconst 0, 1) := by decide +kernel
theorem dX12_readChance_20 : decode cX12_readChance 20 = .ok (.bipush 10, 2) := by decide +kernel
theorem dX12_readChance_22 : decode cX12_readChance 22 = .ok (.invokevirtual 125, 3) := by decide +kernel
theorem dX12_readChance_25 : decode cX12_readChance 25 = .ok (.ifCond .ne 5, 3) := by decide +kernel
theorem dX12_readChance_28 : decode cX12_readChance 28 = .ok (.iconst 0, 1) := by decide +kernel
theorem dX12_readChance_29 : decode cX12_readChance 29 = .ok (.ireturn, 1) := by decide +kernel
theorem dX12_readChance_30 : decode cX12_readChance 30 = .ok (.aload_n 0, 1) := by decide +kernel
theorem dX12_readChance_31 : decode cX12_readChance 31 = .ok (.getfield 13, 3) := by decide +kernel
theorem dX12_readChance_34 : decode cX12_readChance 34 = .ok (.bipush 10, 2) := by decide +kernel
theorem dX12_readChance_36 : decode cX12_readChance 36 = .ok (.iload_n 2, 1) := by decide +kernel
theorem dX12_readChance_37 : decode cX12_readChance 37 = .ok (.iadd, 1) := by decide +kernel
theorem dX12_readChance_38 : decode cX12_readChance 38 = .ok (.aload_n 0, 1) := by decide +kernel
theorem dX12_readChance_39 : decode cX12_readChance 39 = .ok (.getfield 112, 3) := by decide +kernel
theorem dX12_readChance_42 : decode cX12_readChance 42 = .ok (.iastore, 1) := by decide +kernel
theorem dX12_readChance_43 : decode cX12_readChance 43 = .ok (.iload_n 1, 1) := by decide +kernel
theorem dX12_readChance_44 : decode cX12_readChance 44 = .ok (.aload_n 0, 1) := by decide +kernel
theorem dX12_readChance_45 : decode cX12_readChance 45 = .ok (.getfield 112, 3) := by decide +kernel
theorem dX12_readChance_48 : decode cX12_readChance 48 = .ok (.iadd, 1) := by decide +kernel
theorem dX12_readChance_49 : decode cX12_readChance 49 = .ok (.istore_n 1, 1) := by decide +kernel
theorem dX12_readChance_50 : decode cX12_readChance 50 = .ok (.iinc 2 1, 3) := by decide +kernel
theorem dX12_readChance_53 : decode cX12_readChance 53 = .ok (.goto (-40), 3) := by decide +kernel
theorem dX12_readChance_56 : decode cX12_readChance 56 = .ok (.aload_n 0, 1) := by decide +kernel
theorem dX12_readChance_57 : decode cX12_readChance 57 = .ok (.iconst 1, 1) := by decide +kernel
theorem dX12_readChance_58 : decode cX12_readChance 58 = .ok (.putfield 133, 3) := by decide +kernel
theorem dX12_readChance_61 : decode cX12_readChance 61 = .ok (.iload_n 1, 1) := by decide +kernel
theorem dX12_readChance_62 : decode cX12_readChance 62 = .ok (.bipush 10, 2) := by decide +kernel
theorem dX12_readChance_64 : decode cX12_readChance 64 = .ok (.if_icmp .ne 7, 3) := by decide +kernel
theorem dX12_readChance_67 : decode cX12_readChance 67 = .ok (.iconst 1, 1) := by decide +kernel
theorem dX12_readChance_68 : decode cX12_readChance 68 = .ok (.goto 4, 3) := by decide +kernel
theorem dX12_readChance_71 : decode cX12_readChance 71 = .ok (.iconst 0, 1) := by decide +kernel
theorem dX12_readChance_72 : decode cX12_readChance 72 = .ok (.ireturn, 1) := by decide +kernel
theorem dX12_readSums_0 : decode cX12_readSums 0 = .ok (.aload_n 0, 1) := by decide +kernel
theorem dX12_readSums_1 : decode cX12_readSums 1 = .ok (.getfield 137, 3) := by decide +kernel
theorem dX12_readSums_4 : decode cX12_readSums 4 = .ok (.ifCond .ne 12, 3) := by decide +kernel
theorem dX12_readSums_7 : decode cX12_readSums 7 = .ok (.aload_n 0, 1) := by decide +kernel
theorem dX12_readSums_8 : decode cX12_readSums 8 = .ok (.iconst 0, 1) := by decide +kernel
theorem dX12_readSums_9 : decode cX12_readSums 9 = .ok (.iconst 2, 1) := by decide +kernel
theorem dX12_readSums_10 : decode cX12_readSums 10 = .ok (.invokevirtual 125, 3) := by decide +kernel
theorem dX12_readSums_13 : decode cX12_readSums 13 = .ok (.ifCond .ne 5, 3) := by decide +kernel
theorem dX12_readSums_16 : decode cX12_readSums 16 = .ok (.iconst 0, 1) := by decide +kernel
theorem dX12_readSums_17 : decode cX12_readSums 17 = .ok (.ireturn, 1) := by decide +kernel
theorem dX12_readSums_18 : decode cX12_readSums 18 = .ok (.aload_n 0, 1) := by decide +kernel
theorem dX12_readSums_19 : decode cX12_readSums 19 = .ok (.getfield 13, 3) := by decide +kernel
theorem dX12_readSums_22 : decode cX12_readSums 22 = .ok (.bipush 15, 2) := by decide +kernel
theorem dX12_readSums_24 : decode cX12_readSums 24 = .ok (.aload_n 0, 1) := by decide +kernel
theorem dX12_readSums_25 : decode cX12_readSums 25 = .ok (.getfield 112, 3) := by decide +kernel
theorem dX12_readSums_28 : decode cX12_readSums 28 = .ok (.iastore, 1) := by decide +kernel
theorem dX12_readSums_29 : decode cX12_readSums 29 = .ok (.aload_n 0, 1) := by decide +kernel
theorem dX12_readSums_30 : decode cX12_readSums 30 = .ok (.iconst 1, 1) := by decide +kernel
theorem dX12_readSums_31 : decode cX12_readSums 31 = .ok (.bipush 9, 2) := by decide +kernel
theorem dX12_readSums_33 : decode cX12_readSums 33 = .ok (.invokevirtual 125, 3) := by decide +kernel
theorem dX12_readSums_36 : decode cX12_readSums 36 = .ok (.ifCond .ne 5, 3) := by decide +kernel
theorem dX12_readSums_39 : decode cX12_readSums 39 = .ok (.iconst 0, 1) := by decide +kernel
theorem dX12_readSums_40 : decode cX12_readSums 40 = .ok (.ireturn, 1) := by decide +kernel
theorem dX12_readSums_41 : decode cX12_readSums 41 = .ok (.aload_n 0, 1) := by decide +kernel
theorem dX12_readSums_42 : decode cX12_readSums 42 = .ok (.getfield 13, 3) := by decide +kernel
theorem dX12_readSums_45 : decode cX12_readSums 45 = .ok (.bipush 16, 2) := by decide +kernel
theorem dX12_readSums_47 : decode cX12_readSums 47 = .ok (.aload_n 0, 1) := by decide +kernel
theorem dX12_readSums_48 : decode cX12_readSums 48 = .ok (.getfield 112, 3) := by decide +kernel
theorem dX12_readSums_51 : decode cX12_readSums 51 = .ok (.iastore, 1) := by decide +kernel
theorem dX12_readSums_52 : decode cX12_readSums 52 = .ok (.aload_n 0, 1) := by decide +kernel
theorem dX12_readSums_53 : decode cX12_readSums 53 = .ok (.iconst 1, 1) := by decide +kernel
theorem dX12_readSums_54 : decode cX12_readSums 54 = .ok (.putfield 137, 3) := by decide +kernel
theorem dX12_readSums_57 : decode cX12_readSums 57 = .ok (.iconst 1, 1) := by decide +kernel
theorem dX12_readSums_58 : decode cX12_readSums 58 = .ok (.ireturn, 1) := by decide +kernel
theorem dX12_readItem_0 : decode cX12_readItem 0 = .ok (.aload_n 0, 1) := by decide +kernel
theorem dX12_readItem_1 : decode cX12_readItem 1 = .ok (.getfield 105, 3) := by decide +kernel
theorem dX12_readItem_4 : decode cX12_readItem 4 = .ok (.iconst 4, 1) := by decide +kernel
theorem dX12_readItem_5 : decode cX12_readItem 5 = .ok (.if_icmp .ne 10, 3) := by decide +kernel
theorem dX12_readItem_8 : decode cX12_readItem 8 = .ok (.aload_n 0, 1) := by decide +kernel
theorem dX12_readItem_9 : decode cX12_readItem 9 = .ok (.invokevirtual 140, 3) := by decide +kernel
theorem dX12_readItem_12 : decode cX12_readItem 12 = .ok (.goto 39, 3) := by decide +kernel
theorem dX12_readItem_15 : decode cX12_readItem 15 = .ok (.aload_n 0, 1) := by decide +kernel
theorem dX12_readItem_16 : decode cX12_readItem 16 = .ok (.getfield 105, 3) := by decide +kernel
theorem dX12_readItem_19 : decode cX12_readItem 19 = .ok (.iconst 5, 1) := by decide +kernel
theorem dX12_readItem_20 : decode cX12_readItem 20 = .ok (.if_icmp .ne 10, 3) := by decide +kernel
theorem dX12_readItem_23 : decode cX12_readItem 23 = .ok (.aload_n 0, 1) := by decide +kernel
theorem dX12_readItem_24 : decode cX12_readItem 24 = .ok (.invokevirtual 144, 3) := by decide +kernel
theorem dX12_readItem_27 : decode cX12_readItem 27 = .ok (.goto 24, 3) := by decide +kernel
theorem dX12_readItem_30 : decode cX12_readItem 30 = .ok (.aload_n 0, 1) := by decide +kernel
theorem dX12_readItem_31 : decode cX12_readItem 31 = .ok (.getfield 105, 3) := by decide +kernel
theorem dX12_readItem_34 : decode cX12_readItem 34 = .ok (.bipush 6, 2) := by decide +kernel
theorem dX12_readItem_36 : decode cX12_readItem 36 = .ok (.if_icmp .ne 14, 3) := by decide +kernel
theorem dX12_readItem_39 : decode cX12_readItem 39 = .ok (.aload_n 0, 1) := by decide +kernel
theorem dX12_readItem_40 : decode cX12_readItem 40 = .ok (.invokevirtual 147, 3) := by decide +kernel
theorem dX12_readItem_43 : decode cX12_readItem 43 = .ok (.ifCond .eq 7, 3) := by decide +kernel
theorem dX12_readItem_46 : decode cX12_readItem 46 = .ok (.iconst 1, 1) := by decide +kernel
theorem dX12_readItem_47 : decode cX12_readItem 47 = .ok (.goto 4, 3) := by decide +kernel
theorem dX12_readItem_50 : decode cX12_readItem 50 = .ok (.iconst 0, 1) := by decide +kernel
theorem dX12_readItem_51 : decode cX12_readItem 51 = .ok (.istore_n 1, 1) := by decide +kernel
theorem dX12_readItem_52 : decode cX12_readItem 52 = .ok (.iload_n 1, 1) := by decide +kernel
theorem dX12_readItem_53 : decode cX12_readItem 53 = .ok (.ifCond .ne 5, 3) := by decide +kernel
theorem dX12_readItem_56 : decode cX12_readItem 56 = .ok (.iconst 0, 1) := by decide +kernel
theorem dX12_readItem_57 : decode cX12_readItem 57 = .ok (.ireturn, 1) := by decide +kernel
theorem dX12_readItem_58 : decode cX12_readItem 58 = .ok (.aload_n 0, 1) := by decide +kernel
theorem dX12_readItem_59 : decode cX12_readItem 59 = .ok (.invokevirtual 122, 3) := by decide +kernel
theorem dX12_readItem_62 : decode cX12_readItem 62 = .ok (.aload_n 0, 1) := by decide +kernel
theorem dX12_readItem_63 : decode cX12_readItem 63 = .ok (.dup, 1) := by decide +kernel
theorem dX12_readItem_64 : decode cX12_readItem 64 = .ok (.getfield 150, 3) := by decide +kernel
theorem dX12_readItem_67 : decode cX12_readItem 67 = .ok (.iconst 1, 1) := by decide +kernel
theorem dX12_readItem_68 : decode cX12_readItem 68 = .ok (.iadd, 1) := by decide +kernel
theorem dX12_readItem_69 : decode cX12_readItem 69 = .ok (.putfield 150, 3) := by decide +kernel
theorem dX12_readItem_72 : decode cX12_readItem 72 = .ok (.aload_n 0, 1) := by decide +kernel
theorem dX12_readItem_73 : decode cX12_readItem 73 = .ok (.getfield 105, 3) := by decide +kernel
theorem dX12_readItem_76 : decode cX12_readItem 76 = .ok (.bipush 59, 2) := by decide +kernel
theorem dX12_readItem_78 : decode cX12_readItem 78 = .ok (.if_icmp .ne 7, 3) := by decide +kernel
theorem dX12_readItem_81 : decode cX12_readItem 81 = .ok (.iconst 1, 1) := by decide +kernel
theorem dX12_readItem_82 : decode cX12_readItem 82 = .ok (.goto 4, 3) := by decide +kernel
theorem dX12_readItem_85 : decode cX12_readItem 85 = .ok (.iconst 0, 1) := by decide +kernel
theorem dX12_readItem_86 : decode cX12_readItem 86 = .ok (.ireturn, 1) := by decide +kernel
theorem dX12_readText_0 : decode cX12_readText 0 = .ok (.aload_n 0, 1) := by decide +kernel
theorem dX12_readText_1 : decode cX12_readText 1 = .ok (.invokevirtual 81, 3) := by decide +kernel
theorem dX12_readText_4 : decode cX12_readText 4 = .ok (.aload_n 0, 1) := by decide +kernel
theorem dX12_readText_5 : decode cX12_readText 5 = .ok (.iconst 0, 1) := by decide +kernel
theorem dX12_readText_6 : decode cX12_readText 6 = .ok (.putfield 99, 3) := by decide +kernel
theorem dX12_readText_9 : decode cX12_readText 9 = .ok (.aload_n 0, 1) := by decide +kernel
theorem dX12_readText_10 : decode cX12_readText 10 = .ok (.iconst 0, 1) := by decide +kernel
theorem dX12_readText_11 : decode cX12_readText 11 = .ok (.putfield 150, 3) := by decide +kernel
theorem dX12_readText_14 : decode cX12_readText 14 = .ok (.aload_n 0, 1) := by decide +kernel
theorem dX12_readText_15 : decode cX12_readText 15 = .ok (.iconst 0, 1) := by decide +kernel
theorem dX12_readText_16 : decode cX12_readText 16 = .ok (.putfield 133, 3) := by decide +kernel
theorem dX12_readText_19 : decode cX12_readText 19 = .ok (.aload_n 0, 1) := by decide +kernel
theorem dX12_readText_20 : decode cX12_readText 20 = .ok (.iconst 0, 1) := by decide +kernel
theorem dX12_readText_21 : decode cX12_readText 21 = .ok (.putfield 137, 3) := by decide +kernel
theorem dX12_readText_24 : decode cX12_readText 24 = .ok (.aload_n 0, 1) := by decide +kernel
theorem dX12_readText_25 : decode cX12_readText 25 = .ok (.invokevirtual 122, 3) := by decide +kernel
theorem dX12_readText_28 : decode cX12_readText 28 = .ok (.aload_n 0, 1) := by decide +kernel
theorem dX12_readText_29 : decode cX12_readText 29 = .ok (.getfield 105, 3) := by decide +kernel
theorem dX12_readText_32 : decode cX12_readText 32 = .ok (.iconst 2, 1) := by decide +kernel
theorem dX12_readText_33 : decode cX12_readText 33 = .ok (.if_icmp .eq 22, 3) := by decide +kernel
theorem dX12_readText_36 : decode cX12_readText 36 = .ok (.aload_n 0, 1) := by decide +kernel
theorem dX12_readText_37 : decode cX12_readText 37 = .ok (.invokevirtual 153, 3) := by decide +kernel
theorem dX12_readText_40 : decode cX12_readText 40 = .ok (.ifCond .ne 8, 3) := by decide +kernel
theorem dX12_readText_43 : decode cX12_readText 43 = .ok (.aload_n 0, 1) := by decide +kernel
theorem dX12_readText_44 : decode cX12_readText 44 = .ok (.getfield 91, 3) := by decide +kernel
theorem dX12_readText_47 : decode cX12_readText 47 = .ok (.ireturn, 1) := by decide +kernel
theorem dX12_readText_48 : decode cX12_readText 48 = .ok (.aload_n 0, 1) := by decide +kernel
theorem dX12_readText_49 : decode cX12_readText 49 = .ok (.invokevirtual 122, 3) := by decide +kernel
theorem dX12_readText_52 : decode cX12_readText 52 = .ok (.goto (-24), 3) := by decide +kernel
theorem dX12_readText_55 : decode cX12_readText 55 = .ok (.bipush (-9), 2) := by decide +kernel
theorem dX12_readText_57 : decode cX12_readText 57 = .ok (.ireturn, 1) := by decide +kernel
theorem dX12_type_0 : decode cX12_type 0 = .ok (.iload_n 1, 1) := by decide +kernel
theorem dX12_type_1 : decode cX12_type 1 = .ok (.iconst 0, 1) := by decide +kernel
theorem dX12_type_2 : decode cX12_type 2 = .ok (.sipush 255, 3) := by decide +kernel
theorem dX12_type_5 : decode cX12_type 5 = .ok (.invokestatic 87, 3) := by decide +kernel
theorem dX12_type_8 : decode cX12_type 8 = .ok (.ifCond .ne 5, 3) := by decide +kernel
theorem dX12_type_11 : decode cX12_type 11 = .ok (.iconst (-1), 1) := by decide +kernel
theorem dX12_type_12 : decode cX12_type 12 = .ok (.ireturn, 1) := by decide +kernel
theorem dX12_type_13 : decode cX12_type 13 = .ok (.aload_n 0, 1) := by decide +kernel
theorem dX12_type_14 : decode cX12_type 14 = .ok (.getfield 102, 3) := by decide +kernel
theorem dX12_type_17 : decode cX12_type 17 = .ok (.bipush 120, 2) := by decide +kernel
theorem dX12_type_19 : decode cX12_type 19 = .ok (.if_icmp .ne 6, 3) := by decide +kernel
theorem dX12_type_22 : decode cX12_type 22 = .ok (.bipush (-3), 2) := by decide +kernel
theorem dX12_type_24 : decode cX12_type 24 = .ok (.ireturn, 1) := by decide +kernel
theorem dX12_type_25 : decode cX12_type 25 = .ok (.aload_n 0, 1) := by decide +kernel
theorem dX12_type_26 : decode cX12_type 26 = .ok (.getfield 26, 3) := by decide +kernel
theorem dX12_type_29 : decode cX12_type 29 = .ok (.aload_n 0, 1) := by decide +kernel
theorem dX12_type_30 : decode cX12_type 30 = .ok (.getfield 102, 3) := by decide +kernel
theorem dX12_type_33 : decode cX12_type 33 = .ok (.iload_n 1, 1) := by decide +kernel
theorem dX12_type_34 : decode cX12_type 34 = .ok (.iastore, 1) := by decide +kernel
theorem dX12_type_35 : decode cX12_type 35 = .ok (.aload_n 0, 1) := by decide +kernel
theorem dX12_type_36 : decode cX12_type 36 = .ok (.dup, 1) := by decide +kernel
theorem dX12_type_37 : decode cX12_type 37 = .ok (.getfield 102, 3) := by decide +kernel
theorem dX12_type_40 : decode cX12_type 40 = .ok (.iconst 1, 1) := by decide +kernel
theorem dX12_type_41 : decode cX12_type 41 = .ok (.iadd, 1) := by decide +kernel
theorem dX12_type_42 : decode cX12_type 42 = .ok (.putfield 102, 3) := by decide +kernel
theorem dX12_type_45 : decode cX12_type 45 = .ok (.aload_n 0, 1) := by decide +kernel
theorem dX12_type_46 : decode cX12_type 46 = .ok (.getfield 102, 3) := by decide +kernel
theorem dX12_type_49 : decode cX12_type 49 = .ok (.ireturn, 1) := by decide +kernel
theorem dX12_clear_0 : decode cX12_clear 0 = .ok (.aload_n 0, 1) := by decide +kernel
theorem dX12_clear_1 : decode cX12_clear 1 = .ok (.getfield 102, 3) := by decide +kernel
theorem dX12_clear_4 : decode cX12_clear 4 = .ok (.istore_n 1, 1) := by decide +kernel
theorem dX12_clear_5 : decode cX12_clear 5 = .ok (.aload_n 0, 1) := by decide +kernel
theorem dX12_clear_6 : decode cX12_clear 6 = .ok (.iconst 0, 1) := by decide +kernel
theorem dX12_clear_7 : decode cX12_clear 7 = .ok (.putfield 102, 3) := by decide +kernel
theorem dX12_clear_10 : decode cX12_clear 10 = .ok (.iload_n 1, 1) := by decide +kernel
theorem dX12_clear_11 : decode cX12_clear 11 = .ok (.ireturn, 1) := by decide +kernel
theorem dX12_tells_0 : decode cX12_tells 0 = .ok (.aload_n 0, 1) := by decide +kernel
theorem dX12_tells_1 : decode cX12_tells 1 = .ok (.invokevirtual 156, 3) := by decide +kernel
theorem dX12_tells_4 : decode cX12_tells 4 = .ok (.istore_n 1, 1) := by decide +kernel
theorem dX12_tells_5 : decode cX12_tells 5 = .ok (.iload_n 1, 1) := by decide +kernel
theorem dX12_tells_6 : decode cX12_tells 6 = .ok (.bipush (-9), 2) := by decide +kernel
theorem dX12_tells_8 : decode cX12_tells 8 = .ok (.if_icmp .eq 8, 3) := by decide +kernel
theorem dX12_tells_11 : decode cX12_tells 11 = .ok (.bipush (-10), 2) := by decide +kernel
theorem dX12_tells_13 : decode cX12_tells 13 = .ok (.iload_n 1, 1) := by decide +kernel
theorem dX12_tells_14 : decode cX12_tells 14 = .ok (.isub, 1) := by decide +kernel
theorem dX12_tells_15 : decode cX12_tells 15 = .ok (.ireturn, 1) := by decide +kernel
theorem dX12_tells_16 : decode cX12_tells 16 = .ok (.aload_n 0, 1) := by decide +kernel
theorem dX12_tells_17 : decode cX12_tells 17 = .ok (.invokevirtual 159, 3) := by decide +kernel
theorem dX12_tells_20 : decode cX12_tells 20 = .ok (.aload_n 0, 1) := by decide +kernel
theorem dX12_tells_21 : decode cX12_tells 21 = .ok (.invokevirtual 84, 3) := by decide +kernel
theorem dX12_tells_24 : decode cX12_tells 24 = .ok (.aload_n 0, 1) := by decide +kernel
theorem dX12_tells_25 : decode cX12_tells 25 = .ok (.iconst 0, 1) := by decide +kernel
theorem dX12_tells_26 : decode cX12_tells 26 = .ok (.putfield 102, 3) := by decide +kernel
theorem dX12_tells_29 : decode cX12_tells 29 = .ok (.aload_n 0, 1) := by decide +kernel
theorem dX12_tells_30 : decode cX12_tells 30 = .ok (.getfield 150, 3) := by decide +kernel
theorem dX12_tells_33 : decode cX12_tells 33 = .ok (.ireturn, 1) := by decide +kernel
theorem dX12_bring_0 : decode cX12_bring 0 = .ok (.iconst 0, 1) := by decide +kernel
theorem dX12_bring_1 : decode cX12_bring 1 = .ok (.istore 4, 2) := by decide +kernel
theorem dX12_bring_3 : decode cX12_bring 3 = .ok (.iload 4, 2) := by decide +kernel
theorem dX12_bring_5 : decode cX12_bring 5 = .ok (.bipush 98, 2) := by decide +kernel
theorem dX12_bring_7 : decode cX12_bring 7 = .ok (.if_icmp .ge 21, 3) := by decide +kernel
theorem dX12_bring_10 : decode cX12_bring 10 = .ok (.aload_n 2, 1) := by decide +kernel
theorem dX12_bring_11 : decode cX12_bring 11 = .ok (.iload_n 3, 1) := by decide +kernel
theorem dX12_bring_12 : decode cX12_bring 12 = .ok (.iload 4, 2) := by decide +kernel
theorem dX12_bring_14 : decode cX12_bring 14 = .ok (.iadd, 1) := by decide +kernel
theorem dX12_bring_15 : decode cX12_bring 15 = .ok (.aload_n 0, 1) := by decide +kernel
theorem dX12_bring_16 : decode cX12_bring 16 = .ok (.iload_n 1, 1) := by decide +kernel
theorem dX12_bring_17 : decode cX12_bring 17 = .ok (.iload 4, 2) := by decide +kernel
theorem dX12_bring_19 : decode cX12_bring 19 = .ok (.iadd, 1) := by decide +kernel
theorem dX12_bring_20 : decode cX12_bring 20 = .ok (.iaload, 1) := by decide +kernel
theorem dX12_bring_21 : decode cX12_bring 21 = .ok (.iastore, 1) := by decide +kernel
theorem dX12_bring_22 : decode cX12_bring 22 = .ok (.iinc 4 1, 3) := by decide +kernel
theorem dX12_bring_25 : decode cX12_bring 25 = .ok (.goto (-22), 3) := by decide +kernel
theorem dX12_bring_28 : decode cX12_bring 28 = .ok (.return_, 1) := by decide +kernel
theorem dX12_note_0 : decode cX12_note 0 = .ok (.aload_n 0, 1) := by decide +kernel
theorem dX12_note_1 : decode cX12_note 1 = .ok (.getfield 162, 3) := by decide +kernel
theorem dX12_note_4 : decode cX12_note 4 = .ok (.bipush 6, 2) := by decide +kernel
theorem dX12_note_6 : decode cX12_note 6 = .ok (.if_icmp .ne 43, 3) := by decide +kernel
theorem dX12_note_9 : decode cX12_note 9 = .ok (.iconst 0, 1) := by decide +kernel
theorem dX12_note_10 : decode cX12_note 10 = .ok (.istore_n 1, 1) := by decide +kernel
theorem dX12_note_11 : decode cX12_note 11 = .ok (.iload_n 1, 1) := by decide +kernel
theorem dX12_note_12 : decode cX12_note 12 = .ok (.sipush 490, 3) := by decide +kernel
theorem dX12_note_15 : decode cX12_note 15 = .ok (.if_icmp .ge 24, 3) := by decide +kernel
theorem dX12_note_18 : decode cX12_note 18 = .ok (.aload_n 0, 1) := by decide +kernel
theorem dX12_note_19 : decode cX12_note 19 = .ok (.getfield 16, 3) := by decide +kernel
theorem dX12_note_22 : decode cX12_note 22 = .ok (.iload_n 1, 1) := by decide +kernel
theorem dX12_note_23 : decode cX12_note 23 = .ok (.aload_n 0, 1) := by decide +kernel
theorem dX12_note_24 : decode cX12_note 24 = .ok (.getfield 16, 3) := by decide +kernel
theorem dX12_note_27 : decode cX12_note 27 = .ok (.iload_n 1, 1) := by decide +kernel
theorem dX12_note_28 : decode cX12_note 28 = .ok (.bipush 98, 2) := by decide +kernel
theorem dX12_note_30 : decode cX12_note 30 = .ok (.iadd, 1) := by decide +kernel
theorem dX12_note_31 : decode cX12_note 31 = .ok (.iaload, 1) := by decide +kernel
theorem dX12_note_32 : decode cX12_note 32 = .ok (.iastore, 1) := by decide +kernel
theorem dX12_note_33 : decode cX12_note 33 = .ok (.iinc 1 1, 3) := by decide +kernel
theorem dX12_note_36 : decode cX12_note 36 = .ok (.goto (-25), 3) := by decide +kernel
theorem dX12_note_39 : decode cX12_note 39 = .ok (.aload_n 0, 1) := by decide +kernel
theorem dX12_note_40 : decode cX12_note 40 = .ok (.dup, 1) := by decide +kernel
theorem dX12_note_41 : decode cX12_note 41 = .ok (.getfield 162, 3) := by decide +kernel
theorem dX12_note_44 : decode cX12_note 44 = .ok (.iconst 1, 1) := by decide +kernel
theorem dX12_note_45 : decode cX12_note 45 = .ok (.isub, 1) := by decide +kernel
theorem dX12_note_46 : decode cX12_note 46 = .ok (.putfield 162, 3) := by decide +kernel
theorem dX12_note_49 : decode cX12_note 49 = .ok (.aload_n 0, 1) := by decide +kernel
theorem dX12_note_50 : decode cX12_note 50 = .ok (.getfield 7, 3) := by decide +kernel
theorem dX12_note_53 : decode cX12_note 53 = .ok (.iconst 0, 1) := by decide +kernel
theorem dX12_note_54 : decode cX12_note 54 = .ok (.aload_n 0, 1) := by decide +kernel
theorem dX12_note_55 : decode cX12_note 55 = .ok (.getfield 16, 3) := by decide +kernel
theorem dX12_note_58 : decode cX12_note 58 = .ok (.bipush 98, 2) := by decide +kernel
theorem dX12_note_60 : decode cX12_note 60 = .ok (.aload_n 0, 1) := by decide +kernel
theorem dX12_note_61 : decode cX12_note 61 = .ok (.getfield 162, 3) := by decide +kernel
theorem dX12_note_64 : decode cX12_note 64 = .ok (.imul, 1) := by decide +kernel
theorem dX12_note_65 : decode cX12_note 65 = .ok (.invokestatic 165, 3) := by decide +kernel
theorem dX12_note_68 : decode cX12_note 68 = .ok (.aload_n 0, 1) := by decide +kernel
theorem dX12_note_69 : decode cX12_note 69 = .ok (.dup, 1) := by decide +kernel
theorem dX12_note_70 : decode cX12_note 70 = .ok (.getfield 162, 3) := by decide +kernel
theorem dX12_note_73 : decode cX12_note 73 = .ok (.iconst 1, 1) := by decide +kernel
theorem dX12_note_74 : decode cX12_note 74 = .ok (.iadd, 1) := by decide +kernel
theorem dX12_note_75 : decode cX12_note 75 = .ok (.putfield 162, 3) := by decide +kernel
theorem dX12_note_78 : decode cX12_note 78 = .ok (.return_, 1) := by decide +kernel
theorem dX12_undo_0 : decode cX12_undo 0 = .ok (.aload_n 0, 1) := by decide +kernel
theorem dX12_undo_1 : decode cX12_undo 1 = .ok (.getfield 162, 3) := by decide +kernel
theorem dX12_undo_4 : decode cX12_undo 4 = .ok (.ifCond .ne 6, 3) := by decide +kernel
theorem dX12_undo_7 : decode cX12_undo 7 = .ok (.bipush (-2), 2) := by decide +kernel
theorem dX12_undo_9 : decode cX12_undo 9 = .ok (.ireturn, 1) := by decide +kernel
theorem dX12_undo_10 : decode cX12_undo 10 = .ok (.aload_n 0, 1) := by decide +kernel
theorem dX12_undo_11 : decode cX12_undo 11 = .ok (.dup, 1) := by decide +kernel
theorem dX12_undo_12 : decode cX12_undo 12 = .ok (.getfield 162, 3) := by decide +kernel
theorem dX12_undo_15 : decode cX12_undo 15 = .ok (.iconst 1, 1) := by decide +kernel
theorem dX12_undo_16 : decode cX12_undo 16 = .ok (.isub, 1) := by decide +kernel
theorem dX12_undo_17 : decode cX12_undo 17 = .ok (.putfield 162, 3) := by decide +kernel
theorem dX12_undo_20 : decode cX12_undo 20 = .ok (.aload_n 0, 1) := by decide +kernel
theorem dX12_undo_21 : decode cX12_undo 21 = .ok (.getfield 16, 3) := by decide +kernel
theorem dX12_undo_24 : decode cX12_undo 24 = .ok (.bipush 98, 2) := by decide +kernel
theorem dX12_undo_26 : decode cX12_undo 26 = .ok (.aload_n 0, 1) := by decide +kernel
theorem dX12_undo_27 : decode cX12_undo 27 = .ok (.getfield 162, 3) := by decide +kernel
theorem dX12_undo_30 : decode cX12_undo 30 = .ok (.imul, 1) := by decide +kernel
theorem dX12_undo_31 : decode cX12_undo 31 = .ok (.aload_n 0, 1) := by decide +kernel
theorem dX12_undo_32 : decode cX12_undo 32 = .ok (.getfield 7, 3) := by decide +kernel
theorem dX12_undo_35 : decode cX12_undo 35 = .ok (.iconst 0, 1) := by decide +kernel
theorem dX12_undo_36 : decode cX12_undo 36 = .ok (.invokestatic 165, 3) := by decide +kernel
theorem dX12_undo_39 : decode cX12_undo 39 = .ok (.aload_n 0, 1) := by decide +kernel
theorem dX12_undo_40 : decode cX12_undo 40 = .ok (.getfield 162, 3) := by decide +kernel
theorem dX12_undo_43 : decode cX12_undo 43 = .ok (.ireturn, 1) := by decide +kernel
theorem dX12_isRow_0 : decode cX12_isRow 0 = .ok (.iload_n 1, 1) := by decide +kernel
theorem dX12_isRow_1 : decode cX12_isRow 1 = .ok (.iconst 0, 1) := by decide +kernel
theorem dX12_isRow_2 : decode cX12_isRow 2 = .ok (.aload_n 0, 1) := by decide +kernel
theorem dX12_isRow_3 : decode cX12_isRow 3 = .ok (.getfield 7, 3) := by decide +kernel
theorem dX12_isRow_6 : decode cX12_isRow 6 = .ok (.bipush 17, 2) := by decide +kernel
theorem dX12_isRow_8 : decode cX12_isRow 8 = .ok (.iaload, 1) := by decide +kernel
theorem dX12_isRow_9 : decode cX12_isRow 9 = .ok (.iconst 1, 1) := by decide +kernel
theorem dX12_isRow_10 : decode cX12_isRow 10 = .ok (.isub, 1) := by decide +kernel
theorem dX12_isRow_11 : decode cX12_isRow 11 = .ok (.invokestatic 87, 3) := by decide +kernel
theorem dX12_isRow_14 : decode cX12_isRow 14 = .ok (.ireturn, 1) := by decide +kernel
theorem dX12_isSign_0 : decode cX12_isSign 0 = .ok (.iload_n 0, 1) := by decide +kernel
theorem dX12_isSign_1 : decode cX12_isSign 1 = .ok (.iconst 0, 1) := by decide +kernel
theorem dX12_isSign_2 : decode cX12_isSign 2 = .ok (.iconst 4, 1) := by decide +kernel
theorem dX12_isSign_3 : decode cX12_isSign 3 = .ok (.invokestatic 87, 3) := by decide +kernel
theorem dX12_isSign_6 : decode cX12_isSign 6 = .ok (.ireturn, 1) := by decide +kernel
theorem dX12_comes_0 : decode cX12_comes 0 = .ok (.iload_n 1, 1) := by decide +kernel
theorem dX12_comes_1 : decode cX12_comes 1 = .ok (.iconst 0, 1) := by decide +kernel
theorem dX12_comes_2 : decode cX12_comes 2 = .ok (.bipush 99, 2) := by decide +kernel
theorem dX12_comes_4 : decode cX12_comes 4 = .ok (.invokestatic 87, 3) := by decide +kernel
theorem dX12_comes_7 : decode cX12_comes 7 = .ok (.ifCond .eq 10, 3) := by decide +kernel
theorem dX12_comes_10 : decode cX12_comes 10 = .ok (.iload_n 2, 1) := by decide +kernel
theorem dX12_comes_11 : decode cX12_comes 11 = .ok (.invokestatic 169, 3) := by decide +kernel
theorem dX12_comes_14 : decode cX12_comes 14 = .ok (.ifCond .ne 5, 3) := by decide +kernel
theorem dX12_comes_17 : decode cX12_comes 17 = .ok (.iconst (-1), 1) := by decide +kernel
theorem dX12_comes_18 : decode cX12_comes 18 = .ok (.ireturn, 1) := by decide +kernel
theorem dX12_comes_19 : decode cX12_comes 19 = .ok (.iconst 0, 1) := by decide +kernel
theorem dX12_comes_20 : decode cX12_comes 20 = .ok (.istore_n 3, 1) := by decide +kernel
theorem dX12_comes_21 : decode cX12_comes 21 = .ok (.iconst 0, 1) := by decide +kernel
theorem dX12_comes_22 : decode cX12_comes 22 = .ok (.istore 4, 2) := by decide +kernel
theorem dX12_comes_24 : decode cX12_comes 24 = .ok (.iload 4, 2) := by decide +kernel
theorem dX12_comes_26 : decode cX12_comes 26 = .ok (.aload_n 0, 1) := by decide +kernel
theorem dX12_comes_27 : decode cX12_comes 27 = .ok (.getfield 7, 3) := by decide +kernel
theorem dX12_comes_30 : decode cX12_comes 30 = .ok (.bipush 17, 2) := by decide +kernel
theorem dX12_comes_32 : decode cX12_comes 32 = .ok (.iaload, 1) := by decide +kernel
theorem dX12_comes_33 : decode cX12_comes 33 = .ok (.if_icmp .ge 48, 3) := by decide +kernel
theorem dX12_comes_36 : decode cX12_comes 36 = .ok (.aload_n 0, 1) := by decide +kernel
theorem dX12_comes_37 : decode cX12_comes 37 = .ok (.getfield 7, 3) := by decide +kernel
theorem dX12_comes_40 : decode cX12_comes 40 = .ok (.bipush 18, 2) := by decide +kernel
theorem dX12_comes_42 : decode cX12_comes 42 = .ok (.iload 4, 2) := by decide +kernel
theorem dX12_comes_44 : decode cX12_comes 44 = .ok (.iadd, 1) := by decide +kernel
theorem dX12_comes_45 : decode cX12_comes 45 = .ok (.iaload, 1) := by decide +kernel
theorem dX12_comes_46 : decode cX12_comes 46 = .ok (.iload_n 1, 1) := by decide +kernel
theorem dX12_comes_47 : decode cX12_comes 47 = .ok (.if_icmp .ne 6, 3) := by decide +kernel
theorem dX12_comes_50 : decode cX12_comes 50 = .ok (.bipush (-2), 2) := by decide +kernel
theorem dX12_comes_52 : decode cX12_comes 52 = .ok (.ireturn, 1) := by decide +kernel
theorem dX12_comes_53 : decode cX12_comes 53 = .ok (.iload_n 3, 1) := by decide +kernel
theorem dX12_comes_54 : decode cX12_comes 54 = .ok (.aload_n 0, 1) := by decide +kernel
theorem dX12_comes_55 : decode cX12_comes 55 = .ok (.getfield 7, 3) := by decide +kernel
theorem dX12_comes_58 : decode cX12_comes 58 = .ok (.bipush 18, 2) := by decide +kernel
theorem dX12_comes_60 : decode cX12_comes 60 = .ok (.iload 4, 2) := by decide +kernel
theorem dX12_comes_62 : decode cX12_comes 62 = .ok (.iadd, 1) := by decide +kernel
theorem dX12_comes_63 : decode cX12_comes 63 = .ok (.iaload, 1) := by decide +kernel
theorem dX12_comes_64 : decode cX12_comes 64 = .ok (.iload_n 1, 1) := by decide +kernel
theorem dX12_comes_65 : decode cX12_comes 65 = .ok (.if_icmp .ge 7, 3) := by decide +kernel
theorem dX12_comes_68 : decode cX12_comes 68 = .ok (.iconst 1, 1) := by decide +kernel
theorem dX12_comes_69 : decode cX12_comes 69 = .ok (.goto 4, 3) := by decide +kernel
theorem dX12_comes_72 : decode cX12_comes 72 = .ok (.iconst 0, 1) := by decide +kernel
theorem dX12_comes_73 : decode cX12_comes 73 = .ok (.iadd, 1) := by decide +kernel
theorem dX12_comes_74 : decode cX12_comes 74 = .ok (.istore_n 3, 1) := by decide +kernel
theorem dX12_comes_75 : decode cX12_comes 75 = .ok (.iinc 4 1, 3) := by decide +kernel
theorem dX12_comes_78 : decode cX12_comes 78 = .ok (.goto (-54), 3) := by decide +kernel
theorem dX12_comes_81 : decode cX12_comes 81 = .ok (.aload_n 0, 1) := by decide +kernel
theorem dX12_comes_82 : decode cX12_comes 82 = .ok (.getfield 7, 3) := by decide +kernel
theorem dX12_comes_85 : decode cX12_comes 85 = .ok (.bipush 17, 2) := by decide +kernel
theorem dX12_comes_87 : decode cX12_comes 87 = .ok (.iaload, 1) := by decide +kernel
theorem dX12_comes_88 : decode cX12_comes 88 = .ok (.bipush 40, 2) := by decide +kernel
theorem dX12_comes_90 : decode cX12_comes 90 = .ok (.if_icmp .ne 6, 3) := by decide +kernel
theorem dX12_comes_93 : decode cX12_comes 93 = .ok (.bipush (-3), 2) := by decide +kernel
theorem dX12_comes_95 : decode cX12_comes 95 = .ok (.ireturn, 1) := by decide +kernel
theorem dX12_comes_96 : decode cX12_comes 96 = .ok (.aload_n 0, 1) := by decide +kernel
theorem dX12_comes_97 : decode cX12_comes 97 = .ok (.invokevirtual 159, 3) := by decide +kernel
theorem dX12_comes_100 : decode cX12_comes 100 = .ok (.aload_n 0, 1) := by decide +kernel
theorem dX12_comes_101 : decode cX12_comes 101 = .ok (.getfield 7, 3) := by decide +kernel
theorem dX12_comes_104 : decode cX12_comes 104 = .ok (.bipush 17, 2) := by decide +kernel
theorem dX12_comes_106 : decode cX12_comes 106 = .ok (.iaload, 1) := by decide +kernel
theorem dX12_comes_107 : decode cX12_comes 107 = .ok (.istore 4, 2) := by decide +kernel
theorem dX12_comes_109 : decode cX12_comes 109 = .ok (.iload 4, 2) := by decide +kernel
theorem dX12_comes_111 : decode cX12_comes 111 = .ok (.iload_n 3, 1) := by decide +kernel
theorem dX12_comes_112 : decode cX12_comes 112 = .ok (.if_icmp .le 53, 3) := by decide +kernel
theorem dX12_comes_115 : decode cX12_comes 115 = .ok (.aload_n 0, 1) := by decide +kernel
theorem dX12_comes_116 : decode cX12_comes 116 = .ok (.getfield 7, 3) := by decide +kernel
theorem dX12_comes_119 : decode cX12_comes 119 = .ok (.bipush 18, 2) := by decide +kernel
theorem dX12_comes_121 : decode cX12_comes 121 = .ok (.iload 4, 2) := by decide +kernel
theorem dX12_comes_123 : decode cX12_comes 123 = .ok (.iadd, 1) := by decide +kernel
theorem dX12_comes_124 : decode cX12_comes 124 = .ok (.aload_n 0, 1) := by decide +kernel
theorem dX12_comes_125 : decode cX12_comes 125 = .ok (.getfield 7, 3) := by decide +kernel
theorem dX12_comes_128 : decode cX12_comes 128 = .ok (.bipush 18, 2) := by decide +kernel
theorem dX12_comes_130 : decode cX12_comes 130 = .ok (.iload 4, 2) := by decide +kernel
theorem dX12_comes_132 : decode cX12_comes 132 = .ok (.iadd, 1) := by decide +kernel
theorem dX12_comes_133 : decode cX12_comes 133 = .ok (.iconst 1, 1) := by decide +kernel
theorem dX12_comes_134 : decode cX12_comes 134 = .ok (.isub, 1) := by decide +kernel
theorem dX12_comes_135 : decode cX12_comes 135 = .ok (.iaload, 1) := by decide +kernel
theorem dX12_comes_136 : decode cX12_comes 136 = .ok (.iastore, 1) := by decide +kernel
theorem dX12_comes_137 : decode cX12_comes 137 = .ok (.aload_n 0, 1) := by decide +kernel
theorem dX12_comes_138 : decode cX12_comes 138 = .ok (.getfield 7, 3) := by decide +kernel
theorem dX12_comes_141 : decode cX12_comes 141 = .ok (.bipush 58, 2) := by decide +kernel
theorem dX12_comes_143 : decode cX12_comes 143 = .ok (.iload 4, 2) := by decide +kernel
theorem dX12_comes_145 : decode cX12_comes 145 = .ok (.iadd, 1) := by decide +kernel
theorem dX12_comes_146 : decode cX12_comes 146 = .ok (.aload_n 0, 1) := by decide +kernel
theorem dX12_comes_147 : decode cX12_comes 147 = .ok (.getfield 7, 3) := by decide +kernel
theorem dX12_comes_150 : decode cX12_comes 150 = .ok (.bipush 58, 2) := by decide +kernel
theorem dX12_comes_152 : decode cX12_comes 152 = .ok (.iload 4, 2) := by decide +kernel
theorem dX12_comes_154 : decode cX12_comes 154 = .ok (.iadd, 1) := by decide +kernel
theorem dX12_comes_155 : decode cX12_comes 155 = .ok (.iconst 1, 1) := by decide +kernel
theorem dX12_comes_156 : decode cX12_comes 156 = .ok (.isub, 1) := by decide +kernel
theorem dX12_comes_157 : decode cX12_comes 157 = .ok (.iaload, 1) := by decide +kernel
theorem dX12_comes_158 : decode cX12_comes 158 = .ok (.iastore, 1) := by decide +kernel
theorem dX12_comes_159 : decode cX12_comes 159 = .ok (.iinc 4 (-1), 3) := by decide +kernel
theorem dX12_comes_162 : decode cX12_comes 162 = .ok (.goto (-53), 3) := by decide +kernel
theorem dX12_comes_165 : decode cX12_comes 165 = .ok (.aload_n 0, 1) := by decide +kernel
theorem dX12_comes_166 : decode cX12_comes 166 = .ok (.getfield 7, 3) := by decide +kernel
theorem dX12_comes_169 : decode cX12_comes 169 = .ok (.bipush 18, 2) := by decide +kernel
theorem dX12_comes_171 : decode cX12_comes 171 = .ok (.iload_n 3, 1) := by decide +kernel
theorem dX12_comes_172 : decode cX12_comes 172 = .ok (.iadd, 1) := by decide +kernel
theorem dX12_comes_173 : decode cX12_comes 173 = .ok (.iload_n 1, 1) := by decide +kernel
theorem dX12_comes_174 : decode cX12_comes 174 = .ok (.iastore, 1) := by decide +kernel
theorem dX12_comes_175 : decode cX12_comes 175 = .ok (.aload_n 0, 1) := by decide +kernel
theorem dX12_comes_176 : decode cX12_comes 176 = .ok (.getfield 7, 3) := by decide +kernel
theorem dX12_comes_179 : decode cX12_comes 179 = .ok (.bipush 58, 2) := by decide +kernel
theorem dX12_comes_181 : decode cX12_comes 181 = .ok (.iload_n 3, 1) := by decide +kernel
theorem dX12_comes_182 : decode cX12_comes 182 = .ok (.iadd, 1) := by decide +kernel
theorem dX12_comes_183 : decode cX12_comes 183 = .ok (.iload_n 2, 1) := by decide +kernel
theorem dX12_comes_184 : decode cX12_comes 184 = .ok (.iastore, 1) := by decide +kernel
theorem dX12_comes_185 : decode cX12_comes 185 = .ok (.aload_n 0, 1) := by decide +kernel
theorem dX12_comes_186 : decode cX12_comes 186 = .ok (.getfield 7, 3) := by decide +kernel
theorem dX12_comes_189 : decode cX12_comes 189 = .ok (.bipush 17, 2) := by decide +kernel
theorem dX12_comes_191 : decode cX12_comes 191 = .ok (.dup2, 1) := by decide +kernel
theorem dX12_comes_192 : decode cX12_comes 192 = .ok (.iaload, 1) := by decide +kernel
theorem dX12_comes_193 : decode cX12_comes 193 = .ok (.iconst 1, 1) := by decide +kernel
theorem dX12_comes_194 : decode cX12_comes 194 = .ok (.iadd, 1) := by decide +kernel
theorem dX12_comes_195 : decode cX12_comes 195 = .ok (.iastore, 1) := by decide +kernel
theorem dX12_comes_196 : decode cX12_comes 196 = .ok (.iload_n 3, 1) := by decide +kernel
theorem dX12_comes_197 : decode cX12_comes 197 = .ok (.ireturn, 1) := by decide +kernel
theorem dX12_goes_0 : decode cX12_goes 0 = .ok (.aload_n 0, 1) := by decide +kernel
theorem dX12_goes_1 : decode cX12_goes 1 = .ok (.iload_n 1, 1) := by decide +kernel
theorem dX12_goes_2 : decode cX12_goes 2 = .ok (.invokevirtual 172, 3) := by decide +kernel
theorem dX12_goes_5 : decode cX12_goes 5 = .ok (.ifCond .ne 5, 3) := by decide +kernel
theorem dX12_goes_8 : decode cX12_goes 8 = .ok (.iconst (-1), 1) := by decide +kernel
theorem dX12_goes_9 : decode cX12_goes 9 = .ok (.ireturn, 1) := by decide +kernel
theorem dX12_goes_10 : decode cX12_goes 10 = .ok (.aload_n 0, 1) := by decide +kernel
theorem dX12_goes_11 : decode cX12_goes 11 = .ok (.invokevirtual 159, 3) := by decide +kernel
theorem dX12_goes_14 : decode cX12_goes 14 = .ok (.aload_n 0, 1) := by decide +kernel
theorem dX12_goes_15 : decode cX12_goes 15 = .ok (.getfield 7, 3) := by decide +kernel
theorem dX12_goes_18 : decode cX12_goes 18 = .ok (.bipush 18, 2) := by decide +kernel
theorem dX12_goes_20 : decode cX12_goes 20 = .ok (.iload_n 1, 1) := by decide +kernel
theorem dX12_goes_21 : decode cX12_goes 21 = .ok (.iadd, 1) := by decide +kernel
theorem dX12_goes_22 : decode cX12_goes 22 = .ok (.iaload, 1) := by decide +kernel
theorem dX12_goes_23 : decode cX12_goes 23 = .ok (.istore_n 2, 1) := by decide +kernel
theorem dX12_goes_24 : decode cX12_goes 24 = .ok (.aload_n 0, 1) := by decide +kernel
theorem dX12_goes_25 : decode cX12_goes 25 = .ok (.getfield 7, 3) := by decide +kernel
theorem dX12_goes_28 : decode cX12_goes 28 = .ok (.bipush 17, 2) := by decide +kernel
theorem dX12_goes_30 : decode cX12_goes 30 = .ok (.dup2, 1) := by decide +kernel
theorem dX12_goes_31 : decode cX12_goes 31 = .ok (.iaload, 1) := by decide +kernel
theorem dX12_goes_32 : decode cX12_goes 32 = .ok (.iconst 1, 1) := by decide +kernel
theorem dX12_goes_33 : decode cX12_goes 33 = .ok (.isub, 1) := by decide +kernel
theorem dX12_goes_34 : decode cX12_goes 34 = .ok (.iastore, 1) := by decide +kernel
theorem dX12_goes_35 : decode cX12_goes 35 = .ok (.iload_n 1, 1) := by decide +kernel
theorem dX12_goes_36 : decode cX12_goes 36 = .ok (.istore_n 3, 1) := by decide +kernel
theorem dX12_goes_37 : decode cX12_goes 37 = .ok (.iload_n 3, 1) := by decide +kernel
theorem dX12_goes_38 : decode cX12_goes 38 = .ok (.aload_n 0, 1) := by decide +kernel
theorem dX12_goes_39 : decode cX12_goes 39 = .ok (.getfield 7, 3) := by decide +kernel
theorem dX12_goes_42 : decode cX12_goes 42 = .ok (.bipush 17, 2) := by decide +kernel
theorem dX12_goes_44 : decode cX12_goes 44 = .ok (.iaload, 1) := by decide +kernel
theorem dX12_goes_45 : decode cX12_goes 45 = .ok (.if_icmp .ge 49, 3) := by decide +kernel
theorem dX12_goes_48 : decode cX12_goes 48 = .ok (.aload_n 0, 1) := by decide +kernel
theorem dX12_goes_49 : decode cX12_goes 49 = .ok (.getfield 7, 3) := by decide +kernel
theorem dX12_goes_52 : decode cX12_goes 52 = .ok (.bipush 18, 2) := by decide +kernel
theorem dX12_goes_54 : decode cX12_goes 54 = .ok (.iload_n 3, 1) := by decide +kernel
theorem dX12_goes_55 : decode cX12_goes 55 = .ok (.iadd, 1) := by decide +kernel
theorem dX12_goes_56 : decode cX12_goes 56 = .ok (.aload_n 0, 1) := by decide +kernel
theorem dX12_goes_57 : decode cX12_goes 57 = .ok (.getfield 7, 3) := by decide +kernel
theorem dX12_goes_60 : decode cX12_goes 60 = .ok (.bipush 18, 2) := by decide +kernel
theorem dX12_goes_62 : decode cX12_goes 62 = .ok (.iload_n 3, 1) := by decide +kernel
theorem dX12_goes_63 : decode cX12_goes 63 = .ok (.iadd, 1) := by decide +kernel
theorem dX12_goes_64 : decode cX12_goes 64 = .ok (.iconst 1, 1) := by decide +kernel
theorem dX12_goes_65 : decode cX12_goes 65 = .ok (.iadd, 1) := by decide +kernel
theorem dX12_goes_66 : decode cX12_goes 66 = .ok (.iaload, 1) := by decide +kernel
theorem dX12_goes_67 : decode cX12_goes 67 = .ok (.iastore, 1) := by decide +kernel
theorem dX12_goes_68 : decode cX12_goes 68 = .ok (.aload_n 0, 1) := by decide +kernel
theorem dX12_goes_69 : decode cX12_goes 69 = .ok (.getfield 7, 3) := by decide +kernel
theorem dX12_goes_72 : decode cX12_goes 72 = .ok (.bipush 58, 2) := by decide +kernel
theorem dX12_goes_74 : decode cX12_goes 74 = .ok (.iload_n 3, 1) := by decide +kernel
theorem dX12_goes_75 : decode cX12_goes 75 = .ok (.iadd, 1) := by decide +kernel
theorem dX12_goes_76 : decode cX12_goes 76 = .ok (.aload_n 0, 1) := by decide +kernel
theorem dX12_goes_77 : decode cX12_goes 77 = .ok (.getfield 7, 3) := by decide +kernel
theorem dX12_goes_80 : decode cX12_goes 80 = .ok (.bipush 58, 2) := by decide +kernel
theorem dX12_goes_82 : decode cX12_goes 82 = .ok (.iload_n 3, 1) := by decide +kernel
theorem dX12_goes_83 : decode cX12_goes 83 = .ok (.iadd, 1) := by decide +kernel
theorem dX12_goes_84 : decode cX12_goes 84 = .ok (.iconst 1, 1) := by decide +kernel
theorem dX12_goes_85 : decode cX12_goes 85 = .ok (.iadd, 1) := by decide +kernel
theorem dX12_goes_86 : decode cX12_goes 86 = .ok (.iaload, 1) := by decide +kernel
theorem dX12_goes_87 : decode cX12_goes 87 = .ok (.iastore, 1) := by decide +kernel
theorem dX12_goes_88 : decode cX12_goes 88 = .ok (.iinc 3 1, 3) := by decide +kernel
theorem dX12_goes_91 : decode cX12_goes 91 = .ok (.goto (-54), 3) := by decide +kernel
theorem dX12_goes_94 : decode cX12_goes 94 = .ok (.iload_n 2, 1) := by decide +kernel
theorem dX12_goes_95 : decode cX12_goes 95 = .ok (.ireturn, 1) := by decide +kernel
theorem dX12_becomes_0 : decode cX12_becomes 0 = .ok (.aload_n 0, 1) := by decide +kernel
theorem dX12_becomes_1 : decode cX12_becomes 1 = .ok (.iload_n 1, 1) := by decide +kernel
theorem dX12_becomes_2 : decode cX12_becomes 2 = .ok (.invokevirtual 172, 3) := by decide +kernel
theorem dX12_becomes_5 : decode cX12_becomes 5 = .ok (.ifCond .eq 10, 3) := by decide +kernel
theorem dX12_becomes_8 : decode cX12_becomes 8 = .ok (.iload_n 2, 1) := by decide +kernel
theorem dX12_becomes_9 : decode cX12_becomes 9 = .ok (.invokestatic 169, 3) := by decide +kernel
theorem dX12_becomes_12 : decode cX12_becomes 12 = .ok (.ifCond .ne 5, 3) := by decide +kernel
theorem dX12_becomes_15 : decode cX12_becomes 15 = .ok (.iconst (-1), 1) := by decide +kernel
theorem dX12_becomes_16 : decode cX12_becomes 16 = .ok (.ireturn, 1) := by decide +kernel
theorem dX12_becomes_17 : decode cX12_becomes 17 = .ok (.aload_n 0, 1) := by decide +kernel
theorem dX12_becomes_18 : decode cX12_becomes 18 = .ok (.getfield 7, 3) := by decide +kernel
theorem dX12_becomes_21 : decode cX12_becomes 21 = .ok (.bipush 58, 2) := by decide +kernel
theorem dX12_becomes_23 : decode cX12_becomes 23 = .ok (.iload_n 1, 1) := by decide +kernel
theorem dX12_becomes_24 : decode cX12_becomes 24 = .ok (.iadd, 1) := by decide +kernel
theorem dX12_becomes_25 : decode cX12_becomes 25 = .ok (.iaload, 1) := by decide +kernel
theorem dX12_becomes_26 : decode cX12_becomes 26 = .ok (.istore_n 3, 1) := by decide +kernel
theorem dX12_becomes_27 : decode cX12_becomes 27 = .ok (.iload_n 3, 1) := by decide +kernel
theorem dX12_becomes_28 : decode cX12_becomes 28 = .ok (.iload_n 2, 1) := by decide +kernel
theorem dX12_becomes_29 : decode cX12_becomes 29 = .ok (.if_icmp .ne 6, 3) := by decide +kernel
theorem dX12_becomes_32 : decode cX12_becomes 32 = .ok (.bipush (-2), 2) := by decide +kernel
theorem dX12_becomes_34 : decode cX12_becomes 34 = .ok (.ireturn, 1) := by decide +kernel
theorem dX12_becomes_35 : decode cX12_becomes 35 = .ok (.aload_n 0, 1) := by decide +kernel
theorem dX12_becomes_36 : decode cX12_becomes 36 = .ok (.invokevirtual 159, 3) := by decide +kernel
theorem dX12_becomes_39 : decode cX12_becomes 39 = .ok (.aload_n 0, 1) := by decide +kernel
theorem dX12_becomes_40 : decode cX12_becomes 40 = .ok (.getfield 7, 3) := by decide +kernel
theorem dX12_becomes_43 : decode cX12_becomes 43 = .ok (.bipush 58, 2) := by decide +kernel
theorem dX12_becomes_45 : decode cX12_becomes 45 = .ok (.iload_n 1, 1) := by decide +kernel
theorem dX12_becomes_46 : decode cX12_becomes 46 = .ok (.iadd, 1) := by decide +kernel
theorem dX12_becomes_47 : decode cX12_becomes 47 = .ok (.iload_n 2, 1) := by decide +kernel
theorem dX12_becomes_48 : decode cX12_becomes 48 = .ok (.iastore, 1) := by decide +kernel
theorem dX12_becomes_49 : decode cX12_becomes 49 = .ok (.iload_n 3, 1) := by decide +kernel
theorem dX12_becomes_50 : decode cX12_becomes 50 = .ok (.ireturn, 1) := by decide +kernel
theorem dX12_ones_0 : decode cX12_ones 0 = .ok (.iconst 0, 1) := by decide +kernel
theorem dX12_ones_1 : decode cX12_ones 1 = .ok (.istore_n 1, 1) := by decide +kernel
theorem dX12_ones_2 : decode cX12_ones 2 = .ok (.iconst 0, 1) := by decide +kernel
theorem dX12_ones_3 : decode cX12_ones 3 = .ok (.istore_n 2, 1) := by decide +kernel
theorem dX12_ones_4 : decode cX12_ones 4 = .ok (.iload_n 2, 1) := by decide +kernel
theorem dX12_ones_5 : decode cX12_ones 5 = .ok (.bipush 8, 2) := by decide +kernel
theorem dX12_ones_7 : decode cX12_ones 7 = .ok (.if_icmp .ge 17, 3) := by decide +kernel
theorem dX12_ones_10 : decode cX12_ones 10 = .ok (.iload_n 1, 1) := by decide +kernel
theorem dX12_ones_11 : decode cX12_ones 11 = .ok (.iload_n 0, 1) := by decide +kernel
theorem dX12_ones_12 : decode cX12_ones 12 = .ok (.iload_n 2, 1) := by decide +kernel
theorem dX12_ones_13 : decode cX12_ones 13 = .ok (.ishr, 1) := by decide +kernel
theorem dX12_ones_14 : decode cX12_ones 14 = .ok (.iconst 1, 1) := by decide +kernel
theorem dX12_ones_15 : decode cX12_ones 15 = .ok (.iand, 1) := by decide +kernel
theorem dX12_ones_16 : decode cX12_ones 16 = .ok (.iadd, 1) := by decide +kernel
theorem dX12_ones_17 : decode cX12_ones 17 = .ok (.istore_n 1, 1) := by decide +kernel
theorem dX12_ones_18 : decode cX12_ones 18 = .ok (.iinc 2 1, 3) := by decide +kernel
theorem dX12_ones_21 : decode cX12_ones 21 = .ok (.goto (-17), 3) := by decide +kernel
theorem dX12_ones_24 : decode cX12_ones 24 = .ok (.iload_n 1, 1) := by decide +kernel
theorem dX12_ones_25 : decode cX12_ones 25 = .ok (.ireturn, 1) := by decide +kernel
theorem dX12_metBy_0 : decode cX12_metBy 0 = .ok (.iconst 0, 1) := by decide +kernel
theorem dX12_metBy_1 : decode cX12_metBy 1 = .ok (.istore_n 3, 1) := by decide +kernel
theorem dX12_metBy_2 : decode cX12_metBy 2 = .ok (.iconst 0, 1) := by decide +kernel
theorem dX12_metBy_3 : decode cX12_metBy 3 = .ok (.istore 4, 2) := by decide +kernel
theorem dX12_metBy_5 : decode cX12_metBy 5 = .ok (.iconst 0, 1) := by decide +kernel
theorem dX12_metBy_6 : decode cX12_metBy 6 = .ok (.istore 5, 2) := by decide +kernel
theorem dX12_metBy_8 : decode cX12_metBy 8 = .ok (.iload 5, 2) := by decide +kernel
theorem dX12_metBy_10 : decode cX12_metBy 10 = .ok (.aload_n 0, 1) := by decide +kernel
theorem dX12_metBy_11 : decode cX12_metBy 11 = .ok (.getfield 7, 3) := by decide +kernel
theorem dX12_metBy_14 : decode cX12_metBy 14 = .ok (.iconst 0, 1) := by decide +kernel
theorem dX12_metBy_15 : decode cX12_metBy 15 = .ok (.iaload, 1) := by decide +kernel
theorem dX12_metBy_16 : decode cX12_metBy 16 = .ok (.if_icmp .ge 98, 3) := by decide +kernel
theorem dX12_metBy_19 : decode cX12_metBy 19 = .ok (.aload_n 0, 1) := by decide +kernel
theorem dX12_metBy_20 : decode cX12_metBy 20 = .ok (.getfield 7, 3) := by decide +kernel
theorem dX12_metBy_23 : decode cX12_metBy 23 = .ok (.iconst 1, 1) := by decide +kernel
theorem dX12_metBy_24 : decode cX12_metBy 24 = .ok (.iconst 3, 1) := by decide +kernel
theorem dX12_metBy_25 : decode cX12_metBy 25 = .ok (.iload 5, 2) := by decide +kernel
theorem dX12_metBy_27 : decode cX12_metBy 27 = .ok (.imul, 1) := by decide +kernel
theorem dX12_metBy_28 : decode cX12_metBy 28 = .ok (.iadd, 1) := by decide +kernel
theorem dX12_metBy_29 : decode cX12_metBy 29 = .ok (.iconst 1, 1) := by decide +kernel
theorem dX12_metBy_30 : decode cX12_metBy 30 = .ok (.iadd, 1) := by decide +kernel
theorem dX12_metBy_31 : decode cX12_metBy 31 = .ok (.iaload, 1) := by decide +kernel
theorem dX12_metBy_32 : decode cX12_metBy 32 = .ok (.iconst 1, 1) := by decide +kernel
theorem dX12_metBy_33 : decode cX12_metBy 33 = .ok (.isub, 1) := by decide +kernel
theorem dX12_metBy_34 : decode cX12_metBy 34 = .ok (.istore 6, 2) := by decide +kernel
theorem dX12_metBy_36 : decode cX12_metBy 36 = .ok (.iload_n 1, 1) := by decide +kernel
theorem dX12_metBy_37 : decode cX12_metBy 37 = .ok (.iload 4, 2) := by decide +kernel
theorem dX12_metBy_39 : decode cX12_metBy 39 = .ok (.ishr, 1) := by decide +kernel
theorem dX12_metBy_40 : decode cX12_metBy 40 = .ok (.iconst 1, 1) := by decide +kernel
theorem dX12_metBy_41 : decode cX12_metBy 41 = .ok (.iload 6, 2) := by decide +kernel
theorem dX12_metBy_43 : decode cX12_metBy 43 = .ok (.ishl, 1) := by decide +kernel
theorem dX12_metBy_44 : decode cX12_metBy 44 = .ok (.iconst 1, 1) := by decide +kernel
theorem dX12_metBy_45 : decode cX12_metBy 45 = .ok (.isub, 1) := by decide +kernel
theorem dX12_metBy_46 : decode cX12_metBy 46 = .ok (.iand, 1) := by decide +kernel
theorem dX12_metBy_47 : decode cX12_metBy 47 = .ok (.istore 7, 2) := by decide +kernel
theorem dX12_metBy_49 : decode cX12_metBy 49 = .ok (.aload_n 0, 1) := by decide +kernel
theorem dX12_metBy_50 : decode cX12_metBy 50 = .ok (.getfield 7, 3) := by decide +kernel
theorem dX12_metBy_53 : decode cX12_metBy 53 = .ok (.iconst 1, 1) := by decide +kernel
theorem dX12_metBy_54 : decode cX12_metBy 54 = .ok (.iconst 3, 1) := by decide +kernel
theorem dX12_metBy_55 : decode cX12_metBy 55 = .ok (.iload 5, 2) := by decide +kernel
theorem dX12_metBy_57 : decode cX12_metBy 57 = .ok (.imul, 1) := by decide +kernel
theorem dX12_metBy_58 : decode cX12_metBy 58 = .ok (.iadd, 1) := by decide +kernel
theorem dX12_metBy_59 : decode cX12_metBy 59 = .ok (.iconst 2, 1) := by decide +kernel
theorem dX12_metBy_60 : decode cX12_metBy 60 = .ok (.iadd, 1) := by decide +kernel
theorem dX12_metBy_61 : decode cX12_metBy 61 = .ok (.iaload, 1) := by decide +kernel
theorem dX12_metBy_62 : decode cX12_metBy 62 = .ok (.iload_n 2, 1) := by decide +kernel
theorem dX12_metBy_63 : decode cX12_metBy 63 = .ok (.ishr, 1) := by decide +kernel
theorem dX12_metBy_64 : decode cX12_metBy 64 = .ok (.iconst 1, 1) := by decide +kernel
theorem dX12_metBy_65 : decode cX12_metBy 65 = .ok (.iand, 1) := by decide +kernel
theorem dX12_metBy_66 : decode cX12_metBy 66 = .ok (.istore 8, 2) := by decide +kernel
theorem dX12_metBy_68 : decode cX12_metBy 68 = .ok (.iload_n 3, 1) := by decide +kernel
theorem dX12_metBy_69 : decode cX12_metBy 69 = .ok (.iload 7, 2) := by decide +kernel
theorem dX12_metBy_71 : decode cX12_metBy 71 = .ok (.invokestatic 175, 3) := by decide +kernel
theorem dX12_metBy_74 : decode cX12_metBy 74 = .ok (.iload 8, 2) := by decide +kernel
theorem dX12_metBy_76 : decode cX12_metBy 76 = .ok (.iadd, 1) := by decide +kernel
theorem dX12_metBy_77 : decode cX12_metBy 77 = .ok (.aload_n 0, 1) := by decide +kernel
theorem dX12_metBy_78 : decode cX12_metBy 78 = .ok (.getfield 7, 3) := by decide +kernel
theorem dX12_metBy_81 : decode cX12_metBy 81 = .ok (.iconst 1, 1) := by decide +kernel
theorem dX12_metBy_82 : decode cX12_metBy 82 = .ok (.iconst 3, 1) := by decide +kernel
theorem dX12_metBy_83 : decode cX12_metBy 83 = .ok (.iload 5, 2) := by decide +kernel
theorem dX12_metBy_85 : decode cX12_metBy 85 = .ok (.imul, 1) := by decide +kernel
theorem dX12_metBy_86 : decode cX12_metBy 86 = .ok (.iadd, 1) := by decide +kernel
theorem dX12_metBy_87 : decode cX12_metBy 87 = .ok (.iaload, 1) := by decide +kernel
theorem dX12_metBy_88 : decode cX12_metBy 88 = .ok (.if_icmp .lt 10, 3) := by decide +kernel
theorem dX12_metBy_91 : decode cX12_metBy 91 = .ok (.iconst 1, 1) := by decide +kernel
theorem dX12_metBy_92 : decode cX12_metBy 92 = .ok (.iload 5, 2) := by decide +kernel
theorem dX12_metBy_94 : decode cX12_metBy 94 = .ok (.ishl, 1) := by decide +kernel
theorem dX12_metBy_95 : decode cX12_metBy 95 = .ok (.goto 4, 3) := by decide +kernel
theorem dX12_metBy_98 : decode cX12_metBy 98 = .ok (.iconst 0, 1) := by decide +kernel
theorem dX12_metBy_99 : decode cX12_metBy 99 = .ok (.ior, 1) := by decide +kernel
theorem dX12_metBy_100 : decode cX12_metBy 100 = .ok (.istore_n 3, 1) := by decide +kernel
theorem dX12_metBy_101 : decode cX12_metBy 101 = .ok (.iload 4, 2) := by decide +kernel
theorem dX12_metBy_103 : decode cX12_metBy 103 = .ok (.iload 6, 2) := by decide +kernel
theorem dX12_metBy_105 : decode cX12_metBy 105 = .ok (.iadd, 1) := by decide +kernel
theorem dX12_metBy_106 : decode cX12_metBy 106 = .ok (.istore 4, 2) := by decide +kernel
theorem dX12_metBy_108 : decode cX12_metBy 108 = .ok (.iinc 5 1, 3) := by decide +kernel
theorem dX12_metBy_111 : decode cX12_metBy 111 = .ok (.goto (-103), 3) := by decide +kernel
theorem dX12_metBy_114 : decode cX12_metBy 114 = .ok (.iload_n 3, 1) := by decide +kernel
theorem dX12_metBy_115 : decode cX12_metBy 115 = .ok (.ireturn, 1) := by decide +kernel
theorem dX12_nextBy_0 : decode cX12_nextBy 0 = .ok (.iconst 0, 1) := by decide +kernel
theorem dX12_nextBy_1 : decode cX12_nextBy 1 = .ok (.istore_n 3, 1) := by decide +kernel
theorem dX12_nextBy_2 : decode cX12_nextBy 2 = .ok (.iconst 0, 1) := by decide +kernel
theorem dX12_nextBy_3 : decode cX12_nextBy 3 = .ok (.istore 4, 2) := by decide +kernel
theorem dX12_nextBy_5 : decode cX12_nextBy 5 = .ok (.iconst 0, 1) := by decide +kernel
theorem dX12_nextBy_6 : decode cX12_nextBy 6 = .ok (.istore 5, 2) := by decide +kernel
theorem dX12_nextBy_8 : decode cX12_nextBy 8 = .ok (.iload 5, 2) := by decide +kernel
theorem dX12_nextBy_10 : decode cX12_nextBy 10 = .ok (.aload_n 0, 1) := by decide +kernel
theorem dX12_nextBy_11 : decode cX12_nextBy 11 = .ok (.getfield 7, 3) := by decide +kernel
theorem dX12_nextBy_14 : decode cX12_nextBy 14 = .ok (.iconst 0, 1) := by decide +kernel
theorem dX12_nextBy_15 : decode cX12_nextBy 15 = .ok (.iaload, 1) := by decide +kernel
theorem dX12_nextBy_16 : decode cX12_nextBy 16 = .ok (.if_icmp .ge 85, 3) := by decide +kernel
theorem dX12_nextBy_19 : decode cX12_nextBy 19 = .ok (.aload_n 0, 1) := by decide +kernel
theorem dX12_nextBy_20 : decode cX12_nextBy 20 = .ok (.getfield 7, 3) := by decide +kernel
theorem dX12_nextBy_23 : decode cX12_nextBy 23 = .ok (.iconst 1, 1) := by decide +kernel
theorem dX12_nextBy_24 : decode cX12_nextBy 24 = .ok (.iconst 3, 1) := by decide +kernel
theorem dX12_nextBy_25 : decode cX12_nextBy 25 = .ok (.iload 5, 2) := by decide +kernel
theorem dX12_nextBy_27 : decode cX12_nextBy 27 = .ok (.imul, 1) := by decide +kernel
theorem dX12_nextBy_28 : decode cX12_nextBy 28 = .ok (.iadd, 1) := by decide +kernel
theorem dX12_nextBy_29 : decode cX12_nextBy 29 = .ok (.iconst 1, 1) := by decide +kernel
theorem dX12_nextBy_30 : decode cX12_nextBy 30 = .ok (.iadd, 1) := by decide +kernel
theorem dX12_nextBy_31 : decode cX12_nextBy 31 = .ok (.iaload, 1) := by decide +kernel
theorem dX12_nextBy_32 : decode cX12_nextBy 32 = .ok (.iconst 1, 1) := by decide +kernel
theorem dX12_nextBy_33 : decode cX12_nextBy 33 = .ok (.isub, 1) := by decide +kernel
theorem dX12_nextBy_34 : decode cX12_nextBy 34 = .ok (.istore 6, 2) := by decide +kernel
theorem dX12_nextBy_36 : decode cX12_nextBy 36 = .ok (.iconst 1, 1) := by decide +kernel
theorem dX12_nextBy_37 : decode cX12_nextBy 37 = .ok (.iload 6, 2) := by decide +kernel
theorem dX12_nextBy_39 : decode cX12_nextBy 39 = .ok (.ishl, 1) := by decide +kernel
theorem dX12_nextBy_40 : decode cX12_nextBy 40 = .ok (.iconst 1, 1) := by decide +kernel
theorem dX12_nextBy_41 : decode cX12_nextBy 41 = .ok (.isub, 1) := by decide +kernel
theorem dX12_nextBy_42 : decode cX12_nextBy 42 = .ok (.istore 7, 2) := by decide +kernel
theorem dX12_nextBy_44 : decode cX12_nextBy 44 = .ok (.iload_n 1, 1) := by decide +kernel
theorem dX12_nextBy_45 : decode cX12_nextBy 45 = .ok (.iload 4, 2) := by decide +kernel
theorem dX12_nextBy_47 : decode cX12_nextBy 47 = .ok (.ishr, 1) := by decide +kernel
theorem dX12_nextBy_48 : decode cX12_nextBy 48 = .ok (.iload 7, 2) := by decide +kernel
theorem dX12_nextBy_50 : decode cX12_nextBy 50 = .ok (.iand, 1) := by decide +kernel
theorem dX12_nextBy_51 : decode cX12_nextBy 51 = .ok (.istore 8, 2) := by decide +kernel
theorem dX12_nextBy_53 : decode cX12_nextBy 53 = .ok (.aload_n 0, 1) := by decide +kernel
theorem dX12_nextBy_54 : decode cX12_nextBy 54 = .ok (.getfield 7, 3) := by decide +kernel
theorem dX12_nextBy_57 : decode cX12_nextBy 57 = .ok (.iconst 1, 1) := by decide +kernel
theorem dX12_nextBy_58 : decode cX12_nextBy 58 = .ok (.iconst 3, 1) := by decide +kernel
theorem dX12_nextBy_59 : decode cX12_nextBy 59 = .ok (.iload 5, 2) := by decide +kernel
theorem dX12_nextBy_61 : decode cX12_nextBy 61 = .ok (.imul, 1) := by decide +kernel
theorem dX12_nextBy_62 : decode cX12_nextBy 62 = .ok (.iadd, 1) := by decide +kernel
theorem dX12_nextBy_63 : decode cX12_nextBy 63 = .ok (.iconst 2, 1) := by decide +kernel
theorem dX12_nextBy_64 : decode cX12_nextBy 64 = .ok (.iadd, 1) := by decide +kernel
theorem dX12_nextBy_65 : decode cX12_nextBy 65 = .ok (.iaload, 1) := by decide +kernel
theorem dX12_nextBy_66 : decode cX12_nextBy 66 = .ok (.iload_n 2, 1) := by decide +kernel
theorem dX12_nextBy_67 : decode cX12_nextBy 67 = .ok (.ishr, 1) := by decide +kernel
theorem dX12_nextBy_68 : decode cX12_nextBy 68 = .ok (.iconst 1, 1) := by decide +kernel
theorem dX12_nextBy_69 : decode cX12_nextBy 69 = .ok (.iand, 1) := by decide +kernel
theorem dX12_nextBy_70 : decode cX12_nextBy 70 = .ok (.istore 9, 2) := by decide +kernel
theorem dX12_nextBy_72 : decode cX12_nextBy 72 = .ok (.iload_n 3, 1) := by decide +kernel
theorem dX12_nextBy_73 : decode cX12_nextBy 73 = .ok (.iconst 2, 1) := by decide +kernel
theorem dX12_nextBy_74 : decode cX12_nextBy 74 = .ok (.iload 8, 2) := by decide +kernel
theorem dX12_nextBy_76 : decode cX12_nextBy 76 = .ok (.imul, 1) := by decide +kernel
theorem dX12_nextBy_77 : decode cX12_nextBy 77 = .ok (.iload 9, 2) := by decide +kernel
theorem dX12_nextBy_79 : decode cX12_nextBy 79 = .ok (.iadd, 1) := by decide +kernel
theorem dX12_nextBy_80 : decode cX12_nextBy 80 = .ok (.iload 7, 2) := by decide +kernel
theorem dX12_nextBy_82 : decode cX12_nextBy 82 = .ok (.iand, 1) := by decide +kernel
theorem dX12_nextBy_83 : decode cX12_nextBy 83 = .ok (.iload 4, 2) := by decide +kernel
theorem dX12_nextBy_85 : decode cX12_nextBy 85 = .ok (.ishl, 1) := by decide +kernel
theorem dX12_nextBy_86 : decode cX12_nextBy 86 = .ok (.ior, 1) := by decide +kernel
theorem dX12_nextBy_87 : decode cX12_nextBy 87 = .ok (.istore_n 3, 1) := by decide +kernel
theorem dX12_nextBy_88 : decode cX12_nextBy 88 = .ok (.iload 4, 2) := by decide +kernel
theorem dX12_nextBy_90 : decode cX12_nextBy 90 = .ok (.iload 6, 2) := by decide +kernel
theorem dX12_nextBy_92 : decode cX12_nextBy 92 = .ok (.iadd, 1) := by decide +kernel
theorem dX12_nextBy_93 : decode cX12_nextBy 93 = .ok (.istore 4, 2) := by decide +kernel
theorem dX12_nextBy_95 : decode cX12_nextBy 95 = .ok (.iinc 5 1, 3) := by decide +kernel
theorem dX12_nextBy_98 : decode cX12_nextBy 98 = .ok (.goto (-90), 3) := by decide +kernel
theorem dX12_nextBy_101 : decode cX12_nextBy 101 = .ok (.iload_n 3, 1) := by decide +kernel
theorem dX12_nextBy_102 : decode cX12_nextBy 102 = .ok (.ireturn, 1) := by decide +kernel
theorem dX12_goThrough_0 : decode cX12_goThrough 0 = .ok (.iconst 0, 1) := by decide +kernel
theorem dX12_goThrough_1 : decode cX12_goThrough 1 = .ok (.istore_n 1, 1) := by decide +kernel
theorem dX12_goThrough_2 : decode cX12_goThrough 2 = .ok (.iconst 0, 1) := by decide +kernel
theorem dX12_goThrough_3 : decode cX12_goThrough 3 = .ok (.istore_n 2, 1) := by decide +kernel
theorem dX12_goThrough_4 : decode cX12_goThrough 4 = .ok (.iconst 0, 1) := by decide +kernel
theorem dX12_goThrough_5 : decode cX12_goThrough 5 = .ok (.istore_n 3, 1) := by decide +kernel
theorem dX12_goThrough_6 : decode cX12_goThrough 6 = .ok (.iconst 0, 1) := by decide +kernel
theorem dX12_goThrough_7 : decode cX12_goThrough 7 = .ok (.istore 4, 2) := by decide +kernel
theorem dX12_goThrough_9 : decode cX12_goThrough 9 = .ok (.iload 4, 2) := by decide +kernel
theorem dX12_goThrough_11 : decode cX12_goThrough 11 = .ok (.aload_n 0, 1) := by decide +kernel
theorem dX12_goThrough_12 : decode cX12_goThrough 12 = .ok (.getfield 7, 3) := by decide +kernel
theorem dX12_goThrough_15 : decode cX12_goThrough 15 = .ok (.bipush 17, 2) := by decide +kernel
theorem dX12_goThrough_17 : decode cX12_goThrough 17 = .ok (.iaload, 1) := by decide +kernel
theorem dX12_goThrough_18 : decode cX12_goThrough 18 = .ok (.if_icmp .ge 197, 3) := by decide +kernel
theorem dX12_goThrough_21 : decode cX12_goThrough 21 = .ok (.aload_n 0, 1) := by decide +kernel
theorem dX12_goThrough_22 : decode cX12_goThrough 22 = .ok (.getfield 7, 3) := by decide +kernel
theorem dX12_goThrough_25 : decode cX12_goThrough 25 = .ok (.bipush 58, 2) := by decide +kernel
theorem dX12_goThrough_27 : decode cX12_goThrough 27 = .ok (.iload 4, 2) := by decide +kernel
theorem dX12_goThrough_29 : decode cX12_goThrough 29 = .ok (.iadd, 1) := by decide +kernel
theorem dX12_goThrough_30 : decode cX12_goThrough 30 = .ok (.iaload, 1) := by decide +kernel
theorem dX12_goThrough_31 : decode cX12_goThrough 31 = .ok (.istore 5, 2) := by decide +kernel
theorem dX12_goThrough_33 : decode cX12_goThrough 33 = .ok (.aload_n 0, 1) := by decide +kernel
theorem dX12_goThrough_34 : decode cX12_goThrough 34 = .ok (.getfield 29, 3) := by decide +kernel
theorem dX12_goThrough_37 : decode cX12_goThrough 37 = .ok (.iload 4, 2) := by decide +kernel
theorem dX12_goThrough_39 : decode cX12_goThrough 39 = .ok (.aload_n 0, 1) := by decide +kernel
theorem dX12_goThrough_40 : decode cX12_goThrough 40 = .ok (.iload_n 1, 1) := by decide +kernel
theorem dX12_goThrough_41 : decode cX12_goThrough 41 = .ok (.iload 5, 2) := by decide +kernel
theorem dX12_goThrough_43 : decode cX12_goThrough 43 = .ok (.invokevirtual 178, 3) := by decide +kernel
theorem dX12_goThrough_46 : decode cX12_goThrough 46 = .ok (.iastore, 1) := by decide +kernel
theorem dX12_goThrough_47 : decode cX12_goThrough 47 = .ok (.aload_n 0, 1) := by decide +kernel
theorem dX12_goThrough_48 : decode cX12_goThrough 48 = .ok (.getfield 29, 3) := by decide +kernel
theorem dX12_goThrough_51 : decode cX12_goThrough 51 = .ok (.iload 4, 2) := by decide +kernel
theorem dX12_goThrough_53 : decode cX12_goThrough 53 = .ok (.iaload, 1) := by decide +kernel
theorem dX12_goThrough_54 : decode cX12_goThrough 54 = .ok (.ifCond .ne 13, 3) := by decide +kernel
theorem dX12_goThrough_57 : decode cX12_goThrough 57 = .ok (.aload_n 0, 1) := by decide +kernel
theorem dX12_goThrough_58 : decode cX12_goThrough 58 = .ok (.iload_n 1, 1) := by decide +kernel
theorem dX12_goThrough_59 : decode cX12_goThrough 59 = .ok (.iload 5, 2) := by decide +kernel
theorem dX12_goThrough_61 : decode cX12_goThrough 61 = .ok (.invokevirtual 182, 3) := by decide +kernel
theorem dX12_goThrough_64 : decode cX12_goThrough 64 = .ok (.goto 4, 3) := by decide +kernel
theorem dX12_goThrough_67 : decode cX12_goThrough 67 = .ok (.iconst 0, 1) := by decide +kernel
theorem dX12_goThrough_68 : decode cX12_goThrough 68 = .ok (.istore_n 1, 1) := by decide +kernel
theorem dX12_goThrough_69 : decode cX12_goThrough 69 = .ok (.aload_n 0, 1) := by decide +kernel
theorem dX12_goThrough_70 : decode cX12_goThrough 70 = .ok (.getfield 32, 3) := by decide +kernel
theorem dX12_goThrough_73 : decode cX12_goThrough 73 = .ok (.iload 4, 2) := by decide +kernel
theorem dX12_goThrough_75 : decode cX12_goThrough 75 = .ok (.iload_n 1, 1) := by decide +kernel
theorem dX12_goThrough_76 : decode cX12_goThrough 76 = .ok (.iastore, 1) := by decide +kernel
theorem dX12_goThrough_77 : decode cX12_goThrough 77 = .ok (.iload_n 2, 1) := by decide +kernel
theorem dX12_goThrough_78 : decode cX12_goThrough 78 = .ok (.iload 5, 2) := by decide +kernel
theorem dX12_goThrough_80 : decode cX12_goThrough 80 = .ok (.iconst 2, 1) := by decide +kernel
theorem dX12_goThrough_81 : decode cX12_goThrough 81 = .ok (.isub, 1) := by decide +kernel
theorem dX12_goThrough_82 : decode cX12_goThrough 82 = .ok (.aload_n 0, 1) := by decide +kernel
theorem dX12_goThrough_83 : decode cX12_goThrough 83 = .ok (.getfield 7, 3) := by decide +kernel
theorem dX12_goThrough_86 : decode cX12_goThrough 86 = .ok (.bipush 15, 2) := by decide +kernel
theorem dX12_goThrough_88 : decode cX12_goThrough 88 = .ok (.iaload, 1) := by decide +kernel
theorem dX12_goThrough_89 : decode cX12_goThrough 89 = .ok (.isub, 1) := by decide +kernel
theorem dX12_goThrough_90 : decode cX12_goThrough 90 = .ok (.iadd, 1) := by decide +kernel
theorem dX12_goThrough_91 : decode cX12_goThrough 91 = .ok (.istore_n 2, 1) := by decide +kernel
theorem dX12_goThrough_92 : decode cX12_goThrough 92 = .ok (.iload_n 3, 1) := by decide +kernel
theorem dX12_goThrough_93 : decode cX12_goThrough 93 = .ok (.iconst 2, 1) := by decide +kernel
theorem dX12_goThrough_94 : decode cX12_goThrough 94 = .ok (.iload 5, 2) := by decide +kernel
theorem dX12_goThrough_96 : decode cX12_goThrough 96 = .ok (.isub, 1) := by decide +kernel
theorem dX12_goThrough_97 : decode cX12_goThrough 97 = .ok (.aload_n 0, 1) := by decide +kernel
theorem dX12_goThrough_98 : decode cX12_goThrough 98 = .ok (.getfield 7, 3) := by decide +kernel
theorem dX12_goThrough_101 : decode cX12_goThrough 101 = .ok (.bipush 15, 2) := by decide +kernel
theorem dX12_goThrough_103 : decode cX12_goThrough 103 = .ok (.iaload, 1) := by decide +kernel
theorem dX12_goThrough_104 : decode cX12_goThrough 104 = .ok (.isub, 1) := by decide +kernel
theorem dX12_goThrough_105 : decode cX12_goThrough 105 = .ok (.iadd, 1) := by decide +kernel
theorem dX12_goThrough_106 : decode cX12_goThrough 106 = .ok (.istore_n 3, 1) := by decide +kernel
theorem dX12_goThrough_107 : decode cX12_goThrough 107 = .ok (.iload_n 2, 1) := by decide +kernel
theorem dX12_goThrough_108 : decode cX12_goThrough 108 = .ok (.ifCond .ge 7, 3) := by decide +kernel
theorem dX12_goThrough_111 : decode cX12_goThrough 111 = .ok (.iconst 0, 1) := by decide +kernel
theorem dX12_goThrough_112 : decode cX12_goThrough 112 = .ok (.goto 4, 3) := by decide +kernel
theorem dX12_goThrough_115 : decode cX12_goThrough 115 = .ok (.iload_n 2, 1) := by decide +kernel
theorem dX12_goThrough_116 : decode cX12_goThrough 116 = .ok (.istore_n 2, 1) := by decide +kernel
theorem dX12_goThrough_117 : decode cX12_goThrough 117 = .ok (.iload_n 3, 1) := by decide +kernel
theorem dX12_goThrough_118 : decode cX12_goThrough 118 = .ok (.ifCond .ge 7, 3) := by decide +kernel
theorem dX12_goThrough_121 : decode cX12_goThrough 121 = .ok (.iconst 0, 1) := by decide +kernel
theorem dX12_goThrough_122 : decode cX12_goThrough 122 = .ok (.goto 4, 3) := by decide +kernel
theorem dX12_goThrough_125 : decode cX12_goThrough 125 = .ok (.iload_n 3, 1) := by decide +kernel
theorem dX12_goThrough_126 : decode cX12_goThrough 126 = .ok (.istore_n 3, 1) := by decide +kernel
theorem dX12_goThrough_127 : decode cX12_goThrough 127 = .ok (.aload_n 0, 1) := by decide +kernel
theorem dX12_goThrough_128 : decode cX12_goThrough 128 = .ok (.getfield 41, 3) := by decide +kernel
theorem dX12_goThrough_131 : decode cX12_goThrough 131 = .ok (.iload 4, 2) := by decide +kernel
theorem dX12_goThrough_133 : decode cX12_goThrough 133 = .ok (.iload_n 2, 1) := by decide +kernel
theorem dX12_goThrough_134 : decode cX12_goThrough 134 = .ok (.aload_n 0, 1) := by decide +kernel
theorem dX12_goThrough_135 : decode cX12_goThrough 135 = .ok (.getfield 7, 3) := by decide +kernel
theorem dX12_goThrough_138 : decode cX12_goThrough 138 = .ok (.bipush 16, 2) := by decide +kernel
theorem dX12_goThrough_140 : decode cX12_goThrough 140 = .ok (.iaload, 1) := by decide +kernel
theorem dX12_goThrough_141 : decode cX12_goThrough 141 = .ok (.if_icmp .gt 14, 3) := by decide +kernel
theorem dX12_goThrough_144 : decode cX12_goThrough 144 = .ok (.iload_n 3, 1) := by decide +kernel
theorem dX12_goThrough_145 : decode cX12_goThrough 145 = .ok (.aload_n 0, 1) := by decide +kernel
theorem dX12_goThrough_146 : decode cX12_goThrough 146 = .ok (.getfield 7, 3) := by decide +kernel
theorem dX12_goThrough_149 : decode cX12_goThrough 149 = .ok (.bipush 16, 2) := by decide +kernel
theorem dX12_goThrough_151 : decode cX12_goThrough 151 = .ok (.iaload, 1) := by decide +kernel
theorem dX12_goThrough_152 : decode cX12_goThrough 152 = .ok (.if_icmp .le 7, 3) := by decide +kernel
theorem dX12_goThrough_155 : decode cX12_goThrough 155 = .ok (.iconst 1, 1) := by decide +kernel
theorem dX12_goThrough_156 : decode cX12_goThrough 156 = .ok (.goto 4, 3) := by decide +kernel
theorem dX12_goThrough_159 : decode cX12_goThrough 159 = .ok (.iconst 0, 1) := by decide +kernel
theorem dX12_goThrough_160 : decode cX12_goThrough 160 = .ok (.bastore, 1) := by decide +kernel
theorem dX12_goThrough_161 : decode cX12_goThrough 161 = .ok (.aload_n 0, 1) := by decide +kernel
theorem dX12_goThrough_162 : decode cX12_goThrough 162 = .ok (.getfield 41, 3) := by decide +kernel
theorem dX12_goThrough_165 : decode cX12_goThrough 165 = .ok (.iload 4, 2) := by decide +kernel
theorem dX12_goThrough_167 : decode cX12_goThrough 167 = .ok (.baload, 1) := by decide +kernel
theorem dX12_goThrough_168 : decode cX12_goThrough 168 = .ok (.ifCond .eq 7, 3) := by decide +kernel
theorem dX12_goThrough_171 : decode cX12_goThrough 171 = .ok (.iconst 0, 1) := by decide +kernel
theorem dX12_goThrough_172 : decode cX12_goThrough 172 = .ok (.goto 4, 3) := by decide +kernel
theorem dX12_goThrough_175 : decode cX12_goThrough 175 = .ok (.iload_n 2, 1) := by decide +kernel
theorem dX12_goThrough_176 : decode cX12_goThrough 176 = .ok (.istore_n 2, 1) := by decide +kernel
theorem dX12_goThrough_177 : decode cX12_goThrough 177 = .ok (.aload_n 0, 1) := by decide +kernel
theorem dX12_goThrough_178 : decode cX12_goThrough 178 = .ok (.getfield 41, 3) := by decide +kernel
theorem dX12_goThrough_181 : decode cX12_goThrough 181 = .ok (.iload 4, 2) := by decide +kernel
theorem dX12_goThrough_183 : decode cX12_goThrough 183 = .ok (.baload, 1) := by decide +kernel
theorem dX12_goThrough_184 : decode cX12_goThrough 184 = .ok (.ifCond .eq 7, 3) := by decide +kernel
theorem dX12_goThrough_187 : decode cX12_goThrough 187 = .ok (.iconst 0, 1) := by decide +kernel
theorem dX12_goThrough_188 : decode cX12_goThrough 188 = .ok (.goto 4, 3) := by decide +kernel
theorem dX12_goThrough_191 : decode cX12_goThrough 191 = .ok (.iload_n 3, 1) := by decide +kernel
theorem dX12_goThrough_192 : decode cX12_goThrough 192 = .ok (.istore_n 3, 1) := by decide +kernel
theorem dX12_goThrough_193 : decode cX12_goThrough 193 = .ok (.aload_n 0, 1) := by decide +kernel
theorem dX12_goThrough_194 : decode cX12_goThrough 194 = .ok (.getfield 35, 3) := by decide +kernel
theorem dX12_goThrough_197 : decode cX12_goThrough 197 = .ok (.iload 4, 2) := by decide +kernel
theorem dX12_goThrough_199 : decode cX12_goThrough 199 = .ok (.iload_n 2, 1) := by decide +kernel
theorem dX12_goThrough_200 : decode cX12_goThrough 200 = .ok (.iastore, 1) := by decide +kernel
theorem dX12_goThrough_201 : decode cX12_goThrough 201 = .ok (.aload_n 0, 1) := by decide +kernel
theorem dX12_goThrough_202 : decode cX12_goThrough 202 = .ok (.getfield 38, 3) := by decide +kernel
theorem dX12_goThrough_205 : decode cX12_goThrough 205 = .ok (.iload 4, 2) := by decide +kernel
theorem dX12_goThrough_207 : decode cX12_goThrough 207 = .ok (.iload_n 3, 1) := by decide +kernel
theorem dX12_goThrough_208 : decode cX12_goThrough 208 = .ok (.iastore, 1) := by decide +kernel
theorem dX12_goThrough_209 : decode cX12_goThrough 209 = .ok (.iinc 4 1, 3) := by decide +kernel
theorem dX12_goThrough_212 : decode cX12_goThrough 212 = .ok (.goto (-203), 3) := by decide +kernel
theorem dX12_goThrough_215 : decode cX12_goThrough 215 = .ok (.return_, 1) := by decide +kernel
theorem dX12_placeFor_0 : decode cX12_placeFor 0 = .ok (.aload_n 0, 1) := by decide +kernel
theorem dX12_placeFor_1 : decode cX12_placeFor 1 = .ok (.getfield 47, 3) := by decide +kernel
theorem dX12_placeFor_4 : decode cX12_placeFor 4 = .ok (.iload_n 1, 1) := by decide +kernel
theorem dX12_placeFor_5 : decode cX12_placeFor 5 = .ok (.iaload, 1) := by decide +kernel
theorem dX12_placeFor_6 : decode cX12_placeFor 6 = .ok (.bipush (-9), 2) := by decide +kernel
theorem dX12_placeFor_8 : decode cX12_placeFor 8 = .ok (.if_icmp .ne 33, 3) := by decide +kernel
theorem dX12_placeFor_11 : decode cX12_placeFor 11 = .ok (.aload_n 0, 1) := by decide +kernel
theorem dX12_placeFor_12 : decode cX12_placeFor 12 = .ok (.getfield 47, 3) := by decide +kernel
theorem dX12_placeFor_15 : decode cX12_placeFor 15 = .ok (.iload_n 1, 1) := by decide +kernel
theorem dX12_placeFor_16 : decode cX12_placeFor 16 = .ok (.aload_n 0, 1) := by decide +kernel
theorem dX12_placeFor_17 : decode cX12_placeFor 17 = .ok (.getfield 185, 3) := by decide +kernel
theorem dX12_placeFor_20 : decode cX12_placeFor 20 = .ok (.iastore, 1) := by decide +kernel
theorem dX12_placeFor_21 : decode cX12_placeFor 21 = .ok (.aload_n 0, 1) := by decide +kernel
theorem dX12_placeFor_22 : decode cX12_placeFor 22 = .ok (.getfield 44, 3) := by decide +kernel
theorem dX12_placeFor_25 : decode cX12_placeFor 25 = .ok (.aload_n 0, 1) := by decide +kernel
theorem dX12_placeFor_26 : decode cX12_placeFor 26 = .ok (.getfield 185, 3) := by decide +kernel
theorem dX12_placeFor_29 : decode cX12_placeFor 29 = .ok (.iload_n 1, 1) := by decide +kernel
theorem dX12_placeFor_30 : decode cX12_placeFor 30 = .ok (.iastore, 1) := by decide +kernel
theorem dX12_placeFor_31 : decode cX12_placeFor 31 = .ok (.aload_n 0, 1) := by decide +kernel
theorem dX12_placeFor_32 : decode cX12_placeFor 32 = .ok (.dup, 1) := by decide +kernel
theorem dX12_placeFor_33 : decode cX12_placeFor 33 = .ok (.getfield 185, 3) := by decide +kernel
theorem dX12_placeFor_36 : decode cX12_placeFor 36 = .ok (.iconst 1, 1) := by decide +kernel
theorem dX12_placeFor_37 : decode cX12_placeFor 37 = .ok (.iadd, 1) := by decide +kernel
theorem dX12_placeFor_38 : decode cX12_placeFor 38 = .ok (.putfield 185, 3) := by decide +kernel
theorem dX12_placeFor_41 : decode cX12_placeFor 41 = .ok (.aload_n 0, 1) := by decide +kernel
theorem dX12_placeFor_42 : decode cX12_placeFor 42 = .ok (.getfield 47, 3) := by decide +kernel
theorem dX12_placeFor_45 : decode cX12_placeFor 45 = .ok (.iload_n 1, 1) := by decide +kernel
theorem dX12_placeFor_46 : decode cX12_placeFor 46 = .ok (.iaload, 1) := by decide +kernel
theorem dX12_placeFor_47 : decode cX12_placeFor 47 = .ok (.ireturn, 1) := by decide +kernel
theorem dX12_findMemories_0 : decode cX12_findMemories 0 = .ok (.iconst 0, 1) := by decide +kernel
theorem dX12_findMemories_1 : decode cX12_findMemories 1 = .ok (.istore_n 1, 1) := by decide +kernel
theorem dX12_findMemories_2 : decode cX12_findMemories 2 = .ok (.iload_n 1, 1) := by decide +kernel
theorem dX12_findMemories_3 : decode cX12_findMemories 3 = .ok (.bipush 64, 2) := by decide +kernel
theorem dX12_findMemories_5 : decode cX12_findMemories 5 = .ok (.if_icmp .ge 17, 3) := by decide +kernel
theorem dX12_findMemories_8 : decode cX12_findMemories 8 = .ok (.aload_n 0, 1) := by decide +kernel
theorem dX12_findMemories_9 : decode cX12_findMemories 9 = .ok (.getfield 47, 3) := by decide +kernel
theorem dX12_findMemories_12 : decode cX12_findMemories 12 = .ok (.iload_n 1, 1) := by decide +kernel
theorem dX12_findMemories_13 : decode cX12_findMemories 13 = .ok (.bipush (-9), 2) := by decide +kernel
theorem dX12_findMemories_15 : decode cX12_findMemories 15 = .ok (.iastore, 1) := by decide +kernel
theorem dX12_findMemories_16 : decode cX12_findMemories 16 = .ok (.iinc 1 1, 3) := by decide +kernel
theorem dX12_findMemories_19 : decode cX12_findMemories 19 = .ok (.goto (-17), 3) := by decide +kernel
theorem dX12_findMemories_22 : decode cX12_findMemories 22 = .ok (.aload_n 0, 1) := by decide +kernel
theorem dX12_findMemories_23 : decode cX12_findMemories 23 = .ok (.iconst 0, 1) := by decide +kernel
theorem dX12_findMemories_24 : decode cX12_findMemories 24 = .ok (.putfield 185, 3) := by decide +kernel
theorem dX12_findMemories_27 : decode cX12_findMemories 27 = .ok (.aload_n 0, 1) := by decide +kernel
theorem dX12_findMemories_28 : decode cX12_findMemories 28 = .ok (.iconst 0, 1) := by decide +kernel
theorem dX12_findMemories_29 : decode cX12_findMemories 29 = .ok (.invokevirtual 188, 3) := by decide +kernel
theorem dX12_findMemories_32 : decode cX12_findMemories 32 = .ok (.istore_n 1, 1) := by decide +kernel
theorem dX12_findMemories_33 : decode cX12_findMemories 33 = .ok (.iload_n 1, 1) := by decide +kernel
theorem dX12_findMemories_34 : decode cX12_findMemories 34 = .ok (.istore_n 2, 1) := by decide +kernel
theorem dX12_findMemories_35 : decode cX12_findMemories 35 = .ok (.iload_n 2, 1) := by decide +kernel
theorem dX12_findMemories_36 : decode cX12_findMemories 36 = .ok (.aload_n 0, 1) := by decide +kernel
theorem dX12_findMemories_37 : decode cX12_findMemories 37 = .ok (.getfield 185, 3) := by decide +kernel
theorem dX12_findMemories_40 : decode cX12_findMemories 40 = .ok (.if_icmp .ge 66, 3) := by decide +kernel
theorem dX12_findMemories_43 : decode cX12_findMemories 43 = .ok (.iconst 0, 1) := by decide +kernel
theorem dX12_findMemories_44 : decode cX12_findMemories 44 = .ok (.istore_n 3, 1) := by decide +kernel
theorem dX12_findMemories_45 : decode cX12_findMemories 45 = .ok (.iload_n 3, 1) := by decide +kernel
theorem dX12_findMemories_46 : decode cX12_findMemories 46 = .ok (.iconst 5, 1) := by decide +kernel
theorem dX12_findMemories_47 : decode cX12_findMemories 47 = .ok (.if_icmp .ge 53, 3) := by decide +kernel
theorem dX12_findMemories_50 : decode cX12_findMemories 50 = .ok (.aload_n 0, 1) := by decide +kernel
theorem dX12_findMemories_51 : decode cX12_findMemories 51 = .ok (.getfield 44, 3) := by decide +kernel
theorem dX12_findMemories_54 : decode cX12_findMemories 54 = .ok (.iload_n 2, 1) := by decide +kernel
theorem dX12_findMemories_55 : decode cX12_findMemories 55 = .ok (.iaload, 1) := by decide +kernel
theorem dX12_findMemories_56 : decode cX12_findMemories 56 = .ok (.istore 4, 2) := by decide +kernel
theorem dX12_findMemories_58 : decode cX12_findMemories 58 = .ok (.aload_n 0, 1) := by decide +kernel
theorem dX12_findMemories_59 : decode cX12_findMemories 59 = .ok (.getfield 50, 3) := by decide +kernel
theorem dX12_findMemories_62 : decode cX12_findMemories 62 = .ok (.iconst 5, 1) := by decide +kernel
theorem dX12_findMemories_63 : decode cX12_findMemories 63 = .ok (.iload_n 2, 1) := by decide +kernel
theorem dX12_findMemories_64 : decode cX12_findMemories 64 = .ok (.imul, 1) := by decide +kernel
theorem dX12_findMemories_65 : decode cX12_findMemories 65 = .ok (.iload_n 3, 1) := by decide +kernel
theorem dX12_findMemories_66 : decode cX12_findMemories 66 = .ok (.iadd, 1) := by decide +kernel
theorem dX12_findMemories_67 : decode cX12_findMemories 67 = .ok (.aload_n 0, 1) := by decide +kernel
theorem dX12_findMemories_68 : decode cX12_findMemories 68 = .ok (.iload 4, 2) := by decide +kernel
theorem dX12_findMemories_70 : decode cX12_findMemories 70 = .ok (.iload_n 3, 1) := by decide +kernel
theorem dX12_findMemories_71 : decode cX12_findMemories 71 = .ok (.invokevirtual 178, 3) := by decide +kernel
theorem dX12_findMemories_74 : decode cX12_findMemories 74 = .ok (.ifCond .eq 8, 3) := by decide +kernel
theorem dX12_findMemories_77 : decode cX12_findMemories 77 = .ok (.bipush (-5), 2) := by decide +kernel
theorem dX12_findMemories_79 : decode cX12_findMemories 79 = .ok (.goto 14, 3) := by decide +kernel
theorem dX12_findMemories_82 : decode cX12_findMemories 82 = .ok (.aload_n 0, 1) := by decide +kernel
theorem dX12_findMemories_83 : decode cX12_findMemories 83 = .ok (.aload_n 0, 1) := by decide +kernel
theorem dX12_findMemories_84 : decode cX12_findMemories 84 = .ok (.iload 4, 2) := by decide +kernel
theorem dX12_findMemories_86 : decode cX12_findMemories 86 = .ok (.iload_n 3, 1) := by decide +kernel
theorem dX12_findMemories_87 : decode cX12_findMemories 87 = .ok (.invokevirtual 182, 3) := by decide +kernel
theorem dX12_findMemories_90 : decode cX12_findMemories 90 = .ok (.invokevirtual 188, 3) := by decide +kernel
theorem dX12_findMemories_93 : decode cX12_findMemories 93 = .ok (.iastore, 1) := by decide +kernel
theorem dX12_findMemories_94 : decode cX12_findMemories 94 = .ok (.iinc 3 1, 3) := by decide +kernel
theorem dX12_findMemories_97 : decode cX12_findMemories 97 = .ok (.goto (-52), 3) := by decide +kernel
theorem dX12_findMemories_100 : decode cX12_findMemories 100 = .ok (.iinc 2 1, 3) := by decide +kernel
theorem dX12_findMemories_103 : decode cX12_findMemories 103 = .ok (.goto (-68), 3) := by decide +kernel
theorem dX12_findMemories_106 : decode cX12_findMemories 106 = .ok (.return_, 1) := by decide +kernel
theorem dX12_kindBehind_0 : decode cX12_kindBehind 0 = .ok (.aload_n 0, 1) := by decide +kernel
theorem dX12_kindBehind_1 : decode cX12_kindBehind 1 = .ok (.getfield 50, 3) := by decide +kernel
theorem dX12_kindBehind_4 : decode cX12_kindBehind 4 = .ok (.iconst 5, 1) := by decide +kernel
theorem dX12_kindBehind_5 : decode cX12_kindBehind 5 = .ok (.iload_n 1, 1) := by decide +kernel
theorem dX12_kindBehind_6 : decode cX12_kindBehind 6 = .ok (.imul, 1) := by decide +kernel
theorem dX12_kindBehind_7 : decode cX12_kindBehind 7 = .ok (.iload_n 2, 1) := by decide +kernel
theorem dX12_kindBehind_8 : decode cX12_kindBehind 8 = .ok (.iadd, 1) := by decide +kernel
theorem dX12_kindBehind_9 : decode cX12_kindBehind 9 = .ok (.iaload, 1) := by decide +kernel
theorem dX12_kindBehind_10 : decode cX12_kindBehind 10 = .ok (.istore_n 3, 1) := by decide +kernel
theorem dX12_kindBehind_11 : decode cX12_kindBehind 11 = .ok (.iload_n 3, 1) := by decide +kernel
theorem dX12_kindBehind_12 : decode cX12_kindBehind 12 = .ok (.bipush (-5), 2) := by decide +kernel
theorem dX12_kindBehind_14 : decode cX12_kindBehind 14 = .ok (.if_icmp .ne 8, 3) := by decide +kernel
theorem dX12_kindBehind_17 : decode cX12_kindBehind 17 = .ok (.bipush (-5), 2) := by decide +kernel
theorem dX12_kindBehind_19 : decode cX12_kindBehind 19 = .ok (.goto 9, 3) := by decide +kernel
theorem dX12_kindBehind_22 : decode cX12_kindBehind 22 = .ok (.aload_n 0, 1) := by decide +kernel
theorem dX12_kindBehind_23 : decode cX12_kindBehind 23 = .ok (.getfield 53, 3) := by decide +kernel
theorem dX12_kindBehind_26 : decode cX12_kindBehind 26 = .ok (.iload_n 3, 1) := by decide +kernel
theorem dX12_kindBehind_27 : decode cX12_kindBehind 27 = .ok (.iaload, 1) := by decide +kernel
theorem dX12_kindBehind_28 : decode cX12_kindBehind 28 = .ok (.ireturn, 1) := by decide +kernel
theorem dX12_areLike_0 : decode cX12_areLike 0 = .ok (.aload_n 0, 1) := by decide +kernel
theorem dX12_areLike_1 : decode cX12_areLike 1 = .ok (.getfield 53, 3) := by decide +kernel
theorem dX12_areLike_4 : decode cX12_areLike 4 = .ok (.iload_n 1, 1) := by decide +kernel
theorem dX12_areLike_5 : decode cX12_areLike 5 = .ok (.iaload, 1) := by decide +kernel
theorem dX12_areLike_6 : decode cX12_areLike 6 = .ok (.aload_n 0, 1) := by decide +kernel
theorem dX12_areLike_7 : decode cX12_areLike 7 = .ok (.getfield 53, 3) := by decide +kernel
theorem dX12_areLike_10 : decode cX12_areLike 10 = .ok (.iload_n 2, 1) := by decide +kernel
theorem dX12_areLike_11 : decode cX12_areLike 11 = .ok (.iaload, 1) := by decide +kernel
theorem dX12_areLike_12 : decode cX12_areLike 12 = .ok (.if_icmp .ne 7, 3) := by decide +kernel
theorem dX12_areLike_15 : decode cX12_areLike 15 = .ok (.iconst 1, 1) := by decide +kernel
theorem dX12_areLike_16 : decode cX12_areLike 16 = .ok (.goto 4, 3) := by decide +kernel
theorem dX12_areLike_19 : decode cX12_areLike 19 = .ok (.iconst 0, 1) := by decide +kernel
theorem dX12_areLike_20 : decode cX12_areLike 20 = .ok (.istore_n 3, 1) := by decide +kernel
theorem dX12_areLike_21 : decode cX12_areLike 21 = .ok (.iconst 0, 1) := by decide +kernel
theorem dX12_areLike_22 : decode cX12_areLike 22 = .ok (.istore 4, 2) := by decide +kernel
theorem dX12_areLike_24 : decode cX12_areLike 24 = .ok (.iload 4, 2) := by decide +kernel
theorem dX12_areLike_26 : decode cX12_areLike 26 = .ok (.iconst 5, 1) := by decide +kernel
theorem dX12_areLike_27 : decode cX12_areLike 27 = .ok (.if_icmp .ge 36, 3) := by decide +kernel
theorem dX12_areLike_30 : decode cX12_areLike 30 = .ok (.iload_n 3, 1) := by decide +kernel
theorem dX12_areLike_31 : decode cX12_areLike 31 = .ok (.ifCond .eq 32, 3) := by decide +kernel
theorem dX12_areLike_34 : decode cX12_areLike 34 = .ok (.aload_n 0, 1) := by decide +kernel
theorem dX12_areLike_35 : decode cX12_areLike 35 = .ok (.iload_n 1, 1) := by decide +kernel
theorem dX12_areLike_36 : decode cX12_areLike 36 = .ok (.iload 4, 2) := by decide +kernel
theorem dX12_areLike_38 : decode cX12_areLike 38 = .ok (.invokevirtual 191, 3) := by decide +kernel
theorem dX12_areLike_41 : decode cX12_areLike 41 = .ok (.aload_n 0, 1) := by decide +kernel
theorem dX12_areLike_42 : decode cX12_areLike 42 = .ok (.iload_n 2, 1) := by decide +kernel
theorem dX12_areLike_43 : decode cX12_areLike 43 = .ok (.iload 4, 2) := by decide +kernel
theorem dX12_areLike_45 : decode cX12_areLike 45 = .ok (.invokevirtual 191, 3) := by decide +kernel
theorem dX12_areLike_48 : decode cX12_areLike 48 = .ok (.if_icmp .ne 7, 3) := by decide +kernel
theorem dX12_areLike_51 : decode cX12_areLike 51 = .ok (.iconst 1, 1) := by decide +kernel
theorem dX12_areLike_52 : decode cX12_areLike 52 = .ok (.goto 4, 3) := by decide +kernel
theorem dX12_areLike_55 : decode cX12_areLike 55 = .ok (.iconst 0, 1) := by decide +kernel
theorem dX12_areLike_56 : decode cX12_areLike 56 = .ok (.istore_n 3, 1) := by decide +kernel
theorem dX12_areLike_57 : decode cX12_areLike 57 = .ok (.iinc 4 1, 3) := by decide +kernel
theorem dX12_areLike_60 : decode cX12_areLike 60 = .ok (.goto (-36), 3) := by decide +kernel
theorem dX12_areLike_63 : decode cX12_areLike 63 = .ok (.iload_n 3, 1) := by decide +kernel
theorem dX12_areLike_64 : decode cX12_areLike 64 = .ok (.ireturn, 1) := by decide +kernel
theorem dX12_findKinds_0 : decode cX12_findKinds 0 = .ok (.iconst 0, 1) := by decide +kernel
theorem dX12_findKinds_1 : decode cX12_findKinds 1 = .ok (.istore_n 1, 1) := by decide +kernel
theorem dX12_findKinds_2 : decode cX12_findKinds 2 = .ok (.iload_n 1, 1) := by decide +kernel
theorem dX12_findKinds_3 : decode cX12_findKinds 3 = .ok (.aload_n 0, 1) := by decide +kernel
theorem dX12_findKinds_4 : decode cX12_findKinds 4 = .ok (.getfield 185, 3) := by decide +kernel
theorem dX12_findKinds_7 : decode cX12_findKinds 7 = .ok (.if_icmp .ge 16, 3) := by decide +kernel
theorem dX12_findKinds_10 : decode cX12_findKinds 10 = .ok (.aload_n 0, 1) := by decide +kernel
theorem dX12_findKinds_11 : decode cX12_findKinds 11 = .ok (.getfield 53, 3) := by decide +kernel
theorem dX12_findKinds_14 : decode cX12_findKinds 14 = .ok (.iload_n 1, 1) := by decide +kernel
theorem dX12_findKinds_15 : decode cX12_findKinds 15 = .ok (.iconst 0, 1) := by decide +kernel
theorem dX12_findKinds_16 : decode cX12_findKinds 16 = .ok (.iastore, 1) := by decide +kernel
theorem dX12_findKinds_17 : decode cX12_findKinds 17 = .ok (.iinc 1 1, 3) := by decide +kernel
theorem dX12_findKinds_20 : decode cX12_findKinds 20 = .ok (.goto (-18), 3) := by decide +kernel
theorem dX12_findKinds_23 : decode cX12_findKinds 23 = .ok (.aload_n 0, 1) := by decide +kernel
theorem dX12_findKinds_24 : decode cX12_findKinds 24 = .ok (.iconst 1, 1) := by decide +kernel
theorem dX12_findKinds_25 : decode cX12_findKinds 25 = .ok (.putfield 194, 3) := by decide +kernel
theorem dX12_findKinds_28 : decode cX12_findKinds 28 = .ok (.iconst 0, 1) := by decide +kernel
theorem dX12_findKinds_29 : decode cX12_findKinds 29 = .ok (.istore_n 1, 1) := by decide +kernel
theorem dX12_findKinds_30 : decode cX12_findKinds 30 = .ok (.aload_n 0, 1) := by decide +kernel
theorem dX12_findKinds_31 : decode cX12_findKinds 31 = .ok (.getfield 194, 3) := by decide +kernel
theorem dX12_findKinds_34 : decode cX12_findKinds 34 = .ok (.iload_n 1, 1) := by decide +kernel
theorem dX12_findKinds_35 : decode cX12_findKinds 35 = .ok (.if_icmp .eq 138, 3) := by decide +kernel
theorem dX12_findKinds_38 : decode cX12_findKinds 38 = .ok (.aload_n 0, 1) := by decide +kernel
theorem dX12_findKinds_39 : decode cX12_findKinds 39 = .ok (.getfield 194, 3) := by decide +kernel
theorem dX12_findKinds_42 : decode cX12_findKinds 42 = .ok (.istore_n 1, 1) := by decide +kernel
theorem dX12_findKinds_43 : decode cX12_findKinds 43 = .ok (.aload_n 0, 1) := by decide +kernel
theorem dX12_findKinds_44 : decode cX12_findKinds 44 = .ok (.iconst 0, 1) := by decide +kernel
theorem dX12_findKinds_45 : decode cX12_findKinds 45 = .ok (.putfield 194, 3) := by decide +kernel
theorem dX12_findKinds_48 : decode cX12_findKinds 48 = .ok (.iconst 0, 1) := by decide +kernel
theorem dX12_findKinds_49 : decode cX12_findKinds 49 = .ok (.istore_n 2, 1) := by decide +kernel
theorem dX12_findKinds_50 : decode cX12_findKinds 50 = .ok (.iload_n 2, 1) := by decide +kernel
theorem dX12_findKinds_51 : decode cX12_findKinds 51 = .ok (.aload_n 0, 1) := by decide +kernel
theorem dX12_findKinds_52 : decode cX12_findKinds 52 = .ok (.getfield 185, 3) := by decide +kernel
theorem dX12_findKinds_55 : decode cX12_findKinds 55 = .ok (.if_icmp .ge 87, 3) := by decide +kernel
theorem dX12_findKinds_58 : decode cX12_findKinds 58 = .ok (.iload_n 2, 1) := by decide +kernel
theorem dX12_findKinds_59 : decode cX12_findKinds 59 = .ok (.istore_n 3, 1) := by decide +kernel
theorem dX12_findKinds_60 : decode cX12_findKinds 60 = .ok (.iload_n 2, 1) := by decide +kernel
theorem dX12_findKinds_61 : decode cX12_findKinds 61 = .ok (.iconst 1, 1) := by decide +kernel
theorem dX12_findKinds_62 : decode cX12_findKinds 62 = .ok (.isub, 1) := by decide +kernel
theorem dX12_findKinds_63 : decode cX12_findKinds 63 = .ok (.istore 4, 2) := by decide +kernel
theorem dX12_findKinds_65 : decode cX12_findKinds 65 = .ok (.iload 4, 2) := by decide +kernel
theorem dX12_findKinds_67 : decode cX12_findKinds 67 = .ok (.ifCond .lt 26, 3) := by decide +kernel
theorem dX12_findKinds_70 : decode cX12_findKinds 70 = .ok (.aload_n 0, 1) := by decide +kernel
theorem dX12_findKinds_71 : decode cX12_findKinds 71 = .ok (.iload_n 2, 1) := by decide +kernel
theorem dX12_findKinds_72 : decode cX12_findKinds 72 = .ok (.iload 4, 2) := by decide +kernel
theorem dX12_findKinds_74 : decode cX12_findKinds 74 = .ok (.invokevirtual 197, 3) := by decide +kernel
theorem dX12_findKinds_77 : decode cX12_findKinds 77 = .ok (.ifCond .eq 8, 3) := by decide +kernel
theorem dX12_findKinds_80 : decode cX12_findKinds 80 = .ok (.iload 4, 2) := by decide +kernel
theorem dX12_findKinds_82 : decode cX12_findKinds 82 = .ok (.goto 4, 3) := by decide +kernel
theorem dX12_findKinds_85 : decode cX12_findKinds 85 = .ok (.iload_n 3, 1) := by decide +kernel
theorem dX12_findKinds_86 : decode cX12_findKinds 86 = .ok (.istore_n 3, 1) := by decide +kernel
theorem dX12_findKinds_87 : decode cX12_findKinds 87 = .ok (.iinc 4 (-1), 3) := by decide +kernel
theorem dX12_findKinds_90 : decode cX12_findKinds 90 = .ok (.goto (-25), 3) := by decide +kernel
theorem dX12_findKinds_93 : decode cX12_findKinds 93 = .ok (.aload_n 0, 1) := by decide +kernel
theorem dX12_findKinds_94 : decode cX12_findKinds 94 = .ok (.getfield 56, 3) := by decide +kernel
theorem dX12_findKinds_97 : decode cX12_findKinds 97 = .ok (.iload_n 2, 1) := by decide +kernel
theorem dX12_findKinds_98 : decode cX12_findKinds 98 = .ok (.iload_n 3, 1) := by decide +kernel
theorem dX12_findKinds_99 : decode cX12_findKinds 99 = .ok (.iload_n 2, 1) := by decide +kernel
theorem dX12_findKinds_100 : decode cX12_findKinds 100 = .ok (.if_icmp .ne 10, 3) := by decide +kernel
theorem dX12_findKinds_103 : decode cX12_findKinds 103 = .ok (.aload_n 0, 1) := by decide +kernel
theorem dX12_findKinds_104 : decode cX12_findKinds 104 = .ok (.getfield 194, 3) := by decide +kernel
theorem dX12_findKinds_107 : decode cX12_findKinds 107 = .ok (.goto 9, 3) := by decide +kernel
theorem dX12_findKinds_110 : decode cX12_findKinds 110 = .ok (.aload_n 0, 1) := by decide +kernel
theorem dX12_findKinds_111 : decode cX12_findKinds 111 = .ok (.getfield 56, 3) := by decide +kernel
theorem dX12_findKinds_114 : decode cX12_findKinds 114 = .ok (.iload_n 3, 1) := by decide +kernel
theorem dX12_findKinds_115 : decode cX12_findKinds 115 = .ok (.iaload, 1) := by decide +kernel
theorem dX12_findKinds_116 : decode cX12_findKinds 116 = .ok (.iastore, 1) := by decide +kernel
theorem dX12_findKinds_117 : decode cX12_findKinds 117 = .ok (.aload_n 0, 1) := by decide +kernel
theorem dX12_findKinds_118 : decode cX12_findKinds 118 = .ok (.dup, 1) := by decide +kernel
theorem dX12_findKinds_119 : decode cX12_findKinds 119 = .ok (.getfield 194, 3) := by decide +kernel
theorem dX12_findKinds_122 : decode cX12_findKinds 122 = .ok (.iload_n 3, 1) := by decide +kernel
theorem dX12_findKinds_123 : decode cX12_findKinds 123 = .ok (.iload_n 2, 1) := by decide +kernel
theorem dX12_findKinds_124 : decode cX12_findKinds 124 = .ok (.if_icmp .ne 7, 3) := by decide +kernel
theorem dX12_findKinds_127 : decode cX12_findKinds 127 = .ok (.iconst 1, 1) := by decide +kernel
theorem dX12_findKinds_128 : decode cX12_findKinds 128 = .ok (.goto 4, 3) := by decide +kernel
theorem dX12_findKinds_131 : decode cX12_findKinds 131 = .ok (.iconst 0, 1) := by decide +kernel
theorem dX12_findKinds_132 : decode cX12_findKinds 132 = .ok (.iadd, 1) := by decide +kernel
theorem dX12_findKinds_133 : decode cX12_findKinds 133 = .ok (.putfield 194, 3) := by decide +kernel
theorem dX12_findKinds_136 : decode cX12_findKinds 136 = .ok (.iinc 2 1, 3) := by decide +kernel
theorem dX12_findKinds_139 : decode cX12_findKinds 139 = .ok (.goto (-89), 3) := by decide +kernel
theorem dX12_findKinds_142 : decode cX12_findKinds 142 = .ok (.iconst 0, 1) := by decide +kernel
theorem dX12_findKinds_143 : decode cX12_findKinds 143 = .ok (.istore_n 2, 1) := by decide +kernel
theorem dX12_findKinds_144 : decode cX12_findKinds 144 = .ok (.iload_n 2, 1) := by decide +kernel
theorem dX12_findKinds_145 : decode cX12_findKinds 145 = .ok (.aload_n 0, 1) := by decide +kernel
theorem dX12_findKinds_146 : decode cX12_findKinds 146 = .ok (.getfield 185, 3) := by decide +kernel
theorem dX12_findKinds_149 : decode cX12_findKinds 149 = .ok (.if_icmp .ge 21, 3) := by decide +kernel
theorem dX12_findKinds_152 : decode cX12_findKinds 152 = .ok (.aload_n 0, 1) := by decide +kernel
theorem dX12_findKinds_153 : decode cX12_findKinds 153 = .ok (.getfield 53, 3) := by decide +kernel
theorem dX12_findKinds_156 : decode cX12_findKinds 156 = .ok (.iload_n 2, 1) := by decide +kernel
theorem dX12_findKinds_157 : decode cX12_findKinds 157 = .ok (.aload_n 0, 1) := by decide +kernel
theorem dX12_findKinds_158 : decode cX12_findKinds 158 = .ok (.getfield 56, 3) := by decide +kernel
theorem dX12_findKinds_161 : decode cX12_findKinds 161 = .ok (.iload_n 2, 1) := by decide +kernel
theorem dX12_findKinds_162 : decode cX12_findKinds 162 = .ok (.iaload, 1) := by decide +kernel
theorem dX12_findKinds_163 : decode cX12_findKinds 163 = .ok (.iastore, 1) := by decide +kernel
theorem dX12_findKinds_164 : decode cX12_findKinds 164 = .ok (.iinc 2 1, 3) := by decide +kernel
theorem dX12_findKinds_167 : decode cX12_findKinds 167 = .ok (.goto (-23), 3) := by decide +kernel
theorem dX12_findKinds_170 : decode cX12_findKinds 170 = .ok (.goto (-140), 3) := by decide +kernel
theorem dX12_findKinds_173 : decode cX12_findKinds 173 = .ok (.return_, 1) := by decide +kernel
theorem dX12_stateFor_0 : decode cX12_stateFor 0 = .ok (.aload_n 0, 1) := by decide +kernel
theorem dX12_stateFor_1 : decode cX12_stateFor 1 = .ok (.getfield 53, 3) := by decide +kernel
theorem dX12_stateFor_4 : decode cX12_stateFor 4 = .ok (.iload_n 1, 1) := by decide +kernel
theorem dX12_stateFor_5 : decode cX12_stateFor 5 = .ok (.iaload, 1) := by decide +kernel
theorem dX12_stateFor_6 : decode cX12_stateFor 6 = .ok (.istore_n 2, 1) := by decide +kernel
theorem dX12_stateFor_7 : decode cX12_stateFor 7 = .ok (.aload_n 0, 1) := by decide +kernel
theorem dX12_stateFor_8 : decode cX12_stateFor 8 = .ok (.getfield 59, 3) := by decide +kernel
theorem dX12_stateFor_11 : decode cX12_stateFor 11 = .ok (.iload_n 2, 1) := by decide +kernel
theorem dX12_stateFor_12 : decode cX12_stateFor 12 = .ok (.iaload, 1) := by decide +kernel
theorem dX12_stateFor_13 : decode cX12_stateFor 13 = .ok (.bipush (-9), 2) := by decide +kernel
theorem dX12_stateFor_15 : decode cX12_stateFor 15 = .ok (.if_icmp .ne 33, 3) := by decide +kernel
theorem dX12_stateFor_18 : decode cX12_stateFor 18 = .ok (.aload_n 0, 1) := by decide +kernel
theorem dX12_stateFor_19 : decode cX12_stateFor 19 = .ok (.getfield 59, 3) := by decide +kernel
theorem dX12_stateFor_22 : decode cX12_stateFor 22 = .ok (.iload_n 2, 1) := by decide +kernel
theorem dX12_stateFor_23 : decode cX12_stateFor 23 = .ok (.aload_n 0, 1) := by decide +kernel
theorem dX12_stateFor_24 : decode cX12_stateFor 24 = .ok (.getfield 200, 3) := by decide +kernel
theorem dX12_stateFor_27 : decode cX12_stateFor 27 = .ok (.iastore, 1) := by decide +kernel
theorem dX12_stateFor_28 : decode cX12_stateFor 28 = .ok (.aload_n 0, 1) := by decide +kernel
theorem dX12_stateFor_29 : decode cX12_stateFor 29 = .ok (.getfield 62, 3) := by decide +kernel
theorem dX12_stateFor_32 : decode cX12_stateFor 32 = .ok (.aload_n 0, 1) := by decide +kernel
theorem dX12_stateFor_33 : decode cX12_stateFor 33 = .ok (.getfield 200, 3) := by decide +kernel
theorem dX12_stateFor_36 : decode cX12_stateFor 36 = .ok (.iload_n 1, 1) := by decide +kernel
theorem dX12_stateFor_37 : decode cX12_stateFor 37 = .ok (.iastore, 1) := by decide +kernel
theorem dX12_stateFor_38 : decode cX12_stateFor 38 = .ok (.aload_n 0, 1) := by decide +kernel
theorem dX12_stateFor_39 : decode cX12_stateFor 39 = .ok (.dup, 1) := by decide +kernel
theorem dX12_stateFor_40 : decode cX12_stateFor 40 = .ok (.getfield 200, 3) := by decide +kernel
theorem dX12_stateFor_43 : decode cX12_stateFor 43 = .ok (.iconst 1, 1) := by decide +kernel
theorem dX12_stateFor_44 : decode cX12_stateFor 44 = .ok (.iadd, 1) := by decide +kernel
theorem dX12_stateFor_45 : decode cX12_stateFor 45 = .ok (.putfield 200, 3) := by decide +kernel
theorem dX12_stateFor_48 : decode cX12_stateFor 48 = .ok (.aload_n 0, 1) := by decide +kernel
theorem dX12_stateFor_49 : decode cX12_stateFor 49 = .ok (.getfield 59, 3) := by decide +kernel
theorem dX12_stateFor_52 : decode cX12_stateFor 52 = .ok (.iload_n 2, 1) := by decide +kernel
theorem dX12_stateFor_53 : decode cX12_stateFor 53 = .ok (.iaload, 1) := by decide +kernel
theorem dX12_stateFor_54 : decode cX12_stateFor 54 = .ok (.ireturn, 1) := by decide +kernel
theorem dX12_build_0 : decode cX12_build 0 = .ok (.aload_n 0, 1) := by decide +kernel
theorem dX12_build_1 : decode cX12_build 1 = .ok (.invokevirtual 203, 3) := by decide +kernel
theorem dX12_build_4 : decode cX12_build 4 = .ok (.aload_n 0, 1) := by decide +kernel
theorem dX12_build_5 : decode cX12_build 5 = .ok (.invokevirtual 206, 3) := by decide +kernel
theorem dX12_build_8 : decode cX12_build 8 = .ok (.iconst 0, 1) := by decide +kernel
