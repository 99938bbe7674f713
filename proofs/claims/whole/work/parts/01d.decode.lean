theorem dX10_sumBySum_37 : decode cX10_sumBySum 37 = .ok (.iload 6, 2) := by decide +kernel
theorem dX10_sumBySum_39 : decode cX10_sumBySum 39 = .ok (.iadd, 1) := by decide +kernel
theorem dX10_sumBySum_40 : decode cX10_sumBySum 40 = .ok (.aload_n 1, 1) := by decide +kernel
theorem dX10_sumBySum_41 : decode cX10_sumBySum 41 = .ok (.getfield 59, 3) := by decide +kernel
theorem dX10_sumBySum_44 : decode cX10_sumBySum 44 = .ok (.isub, 1) := by decide +kernel
theorem dX10_sumBySum_45 : decode cX10_sumBySum 45 = .ok (.invokestatic 62, 3) := by decide +kernel
theorem dX10_sumBySum_48 : decode cX10_sumBySum 48 = .ok (.istore_n 3, 1) := by decide +kernel
theorem dX10_sumBySum_49 : decode cX10_sumBySum 49 = .ok (.iconst 0, 1) := by decide +kernel
theorem dX10_sumBySum_50 : decode cX10_sumBySum 50 = .ok (.iload 4, 2) := by decide +kernel
theorem dX10_sumBySum_52 : decode cX10_sumBySum 52 = .ok (.iload 6, 2) := by decide +kernel
theorem dX10_sumBySum_54 : decode cX10_sumBySum 54 = .ok (.isub, 1) := by decide +kernel
theorem dX10_sumBySum_55 : decode cX10_sumBySum 55 = .ok (.aload_n 1, 1) := by decide +kernel
theorem dX10_sumBySum_56 : decode cX10_sumBySum 56 = .ok (.getfield 59, 3) := by decide +kernel
theorem dX10_sumBySum_59 : decode cX10_sumBySum 59 = .ok (.isub, 1) := by decide +kernel
theorem dX10_sumBySum_60 : decode cX10_sumBySum 60 = .ok (.invokestatic 62, 3) := by decide +kernel
theorem dX10_sumBySum_63 : decode cX10_sumBySum 63 = .ok (.istore 4, 2) := by decide +kernel
theorem dX10_sumBySum_65 : decode cX10_sumBySum 65 = .ok (.aload_n 0, 1) := by decide +kernel
theorem dX10_sumBySum_66 : decode cX10_sumBySum 66 = .ok (.getfield 24, 3) := by decide +kernel
theorem dX10_sumBySum_69 : decode cX10_sumBySum 69 = .ok (.iload 5, 2) := by decide +kernel
theorem dX10_sumBySum_71 : decode cX10_sumBySum 71 = .ok (.iconst 0, 1) := by decide +kernel
theorem dX10_sumBySum_72 : decode cX10_sumBySum 72 = .ok (.iastore, 1) := by decide +kernel
theorem dX10_sumBySum_73 : decode cX10_sumBySum 73 = .ok (.iload_n 3, 1) := by decide +kernel
theorem dX10_sumBySum_74 : decode cX10_sumBySum 74 = .ok (.aload_n 1, 1) := by decide +kernel
theorem dX10_sumBySum_75 : decode cX10_sumBySum 75 = .ok (.getfield 67, 3) := by decide +kernel
theorem dX10_sumBySum_78 : decode cX10_sumBySum 78 = .ok (.if_icmp .gt 12, 3) := by decide +kernel
theorem dX10_sumBySum_81 : decode cX10_sumBySum 81 = .ok (.iload 4, 2) := by decide +kernel
theorem dX10_sumBySum_83 : decode cX10_sumBySum 83 = .ok (.aload_n 1, 1) := by decide +kernel
theorem dX10_sumBySum_84 : decode cX10_sumBySum 84 = .ok (.getfield 67, 3) := by decide +kernel
theorem dX10_sumBySum_87 : decode cX10_sumBySum 87 = .ok (.if_icmp .le 16, 3) := by decide +kernel
theorem dX10_sumBySum_90 : decode cX10_sumBySum 90 = .ok (.aload_n 0, 1) := by decide +kernel
theorem dX10_sumBySum_91 : decode cX10_sumBySum 91 = .ok (.getfield 24, 3) := by decide +kernel
theorem dX10_sumBySum_94 : decode cX10_sumBySum 94 = .ok (.iload 5, 2) := by decide +kernel
theorem dX10_sumBySum_96 : decode cX10_sumBySum 96 = .ok (.iconst 1, 1) := by decide +kernel
theorem dX10_sumBySum_97 : decode cX10_sumBySum 97 = .ok (.iastore, 1) := by decide +kernel
theorem dX10_sumBySum_98 : decode cX10_sumBySum 98 = .ok (.iconst 0, 1) := by decide +kernel
theorem dX10_sumBySum_99 : decode cX10_sumBySum 99 = .ok (.istore_n 3, 1) := by decide +kernel
theorem dX10_sumBySum_100 : decode cX10_sumBySum 100 = .ok (.iconst 0, 1) := by decide +kernel
theorem dX10_sumBySum_101 : decode cX10_sumBySum 101 = .ok (.istore 4, 2) := by decide +kernel
theorem dX10_sumBySum_103 : decode cX10_sumBySum 103 = .ok (.aload_n 0, 1) := by decide +kernel
theorem dX10_sumBySum_104 : decode cX10_sumBySum 104 = .ok (.getfield 18, 3) := by decide +kernel
theorem dX10_sumBySum_107 : decode cX10_sumBySum 107 = .ok (.iload 5, 2) := by decide +kernel
theorem dX10_sumBySum_109 : decode cX10_sumBySum 109 = .ok (.iload_n 3, 1) := by decide +kernel
theorem dX10_sumBySum_110 : decode cX10_sumBySum 110 = .ok (.iastore, 1) := by decide +kernel
theorem dX10_sumBySum_111 : decode cX10_sumBySum 111 = .ok (.aload_n 0, 1) := by decide +kernel
theorem dX10_sumBySum_112 : decode cX10_sumBySum 112 = .ok (.getfield 21, 3) := by decide +kernel
theorem dX10_sumBySum_115 : decode cX10_sumBySum 115 = .ok (.iload 5, 2) := by decide +kernel
theorem dX10_sumBySum_117 : decode cX10_sumBySum 117 = .ok (.iload 4, 2) := by decide +kernel
theorem dX10_sumBySum_119 : decode cX10_sumBySum 119 = .ok (.iastore, 1) := by decide +kernel
theorem dX10_sumBySum_120 : decode cX10_sumBySum 120 = .ok (.iinc 5 1, 3) := by decide +kernel
theorem dX10_sumBySum_123 : decode cX10_sumBySum 123 = .ok (.goto (-115), 3) := by decide +kernel
theorem dX10_sumBySum_126 : decode cX10_sumBySum 126 = .ok (.return_, 1) := by decide +kernel
theorem dX11_init_0 : decode cX11_init 0 = .ok (.aload_n 0, 1) := by decide +kernel
theorem dX11_init_1 : decode cX11_init 1 = .ok (.invokespecial 1, 3) := by decide +kernel
theorem dX11_init_4 : decode cX11_init 4 = .ok (.aload_n 0, 1) := by decide +kernel
theorem dX11_init_5 : decode cX11_init 5 = .ok (.new 7, 3) := by decide +kernel
theorem dX11_init_8 : decode cX11_init 8 = .ok (.dup, 1) := by decide +kernel
theorem dX11_init_9 : decode cX11_init 9 = .ok (.invokespecial 9, 3) := by decide +kernel
theorem dX11_init_12 : decode cX11_init 12 = .ok (.putfield 10, 3) := by decide +kernel
theorem dX11_init_15 : decode cX11_init 15 = .ok (.aload_n 0, 1) := by decide +kernel
theorem dX11_init_16 : decode cX11_init 16 = .ok (.aload_n 0, 1) := by decide +kernel
theorem dX11_init_17 : decode cX11_init 17 = .ok (.getfield 10, 3) := by decide +kernel
theorem dX11_init_20 : decode cX11_init 20 = .ok (.getfield 16, 3) := by decide +kernel
theorem dX11_init_23 : decode cX11_init 23 = .ok (.putfield 20, 3) := by decide +kernel
theorem dX11_init_26 : decode cX11_init 26 = .ok (.aload_n 0, 1) := by decide +kernel
theorem dX11_init_27 : decode cX11_init 27 = .ok (.new 21, 3) := by decide +kernel
theorem dX11_init_30 : decode cX11_init 30 = .ok (.dup, 1) := by decide +kernel
theorem dX11_init_31 : decode cX11_init 31 = .ok (.invokespecial 23, 3) := by decide +kernel
theorem dX11_init_34 : decode cX11_init 34 = .ok (.putfield 24, 3) := by decide +kernel
theorem dX11_init_37 : decode cX11_init 37 = .ok (.aload_n 0, 1) := by decide +kernel
theorem dX11_init_38 : decode cX11_init 38 = .ok (.new 28, 3) := by decide +kernel
theorem dX11_init_41 : decode cX11_init 41 = .ok (.dup, 1) := by decide +kernel
theorem dX11_init_42 : decode cX11_init 42 = .ok (.invokespecial 30, 3) := by decide +kernel
theorem dX11_init_45 : decode cX11_init 45 = .ok (.putfield 31, 3) := by decide +kernel
theorem dX11_init_48 : decode cX11_init 48 = .ok (.aload_n 0, 1) := by decide +kernel
theorem dX11_init_49 : decode cX11_init 49 = .ok (.iconst 2, 1) := by decide +kernel
theorem dX11_init_50 : decode cX11_init 50 = .ok (.anewarray 21, 3) := by decide +kernel
theorem dX11_init_53 : decode cX11_init 53 = .ok (.putfield 35, 3) := by decide +kernel
theorem dX11_init_56 : decode cX11_init 56 = .ok (.iconst 0, 1) := by decide +kernel
theorem dX11_init_57 : decode cX11_init 57 = .ok (.istore_n 1, 1) := by decide +kernel
theorem dX11_init_58 : decode cX11_init 58 = .ok (.iload_n 1, 1) := by decide +kernel
theorem dX11_init_59 : decode cX11_init 59 = .ok (.iconst 2, 1) := by decide +kernel
theorem dX11_init_60 : decode cX11_init 60 = .ok (.if_icmp .ge 22, 3) := by decide +kernel
theorem dX11_init_63 : decode cX11_init 63 = .ok (.aload_n 0, 1) := by decide +kernel
theorem dX11_init_64 : decode cX11_init 64 = .ok (.getfield 35, 3) := by decide +kernel
theorem dX11_init_67 : decode cX11_init 67 = .ok (.iload_n 1, 1) := by decide +kernel
theorem dX11_init_68 : decode cX11_init 68 = .ok (.new 21, 3) := by decide +kernel
theorem dX11_init_71 : decode cX11_init 71 = .ok (.dup, 1) := by decide +kernel
theorem dX11_init_72 : decode cX11_init 72 = .ok (.invokespecial 23, 3) := by decide +kernel
theorem dX11_init_75 : decode cX11_init 75 = .ok (.aastore, 1) := by decide +kernel
theorem dX11_init_76 : decode cX11_init 76 = .ok (.iinc 1 1, 3) := by decide +kernel
theorem dX11_init_79 : decode cX11_init 79 = .ok (.goto (-21), 3) := by decide +kernel
theorem dX11_init_82 : decode cX11_init 82 = .ok (.aload_n 0, 1) := by decide +kernel
theorem dX11_init_83 : decode cX11_init 83 = .ok (.iconst 2, 1) := by decide +kernel
theorem dX11_init_84 : decode cX11_init 84 = .ok (.newarray .boolean, 2) := by decide +kernel
theorem dX11_init_86 : decode cX11_init 86 = .ok (.putfield 39, 3) := by decide +kernel
theorem dX11_init_89 : decode cX11_init 89 = .ok (.aload_n 0, 1) := by decide +kernel
theorem dX11_init_90 : decode cX11_init 90 = .ok (.new 43, 3) := by decide +kernel
theorem dX11_init_93 : decode cX11_init 93 = .ok (.dup, 1) := by decide +kernel
theorem dX11_init_94 : decode cX11_init 94 = .ok (.invokespecial 45, 3) := by decide +kernel
theorem dX11_init_97 : decode cX11_init 97 = .ok (.putfield 46, 3) := by decide +kernel
theorem dX11_init_100 : decode cX11_init 100 = .ok (.aload_n 0, 1) := by decide +kernel
theorem dX11_init_101 : decode cX11_init 101 = .ok (.new 50, 3) := by decide +kernel
theorem dX11_init_104 : decode cX11_init 104 = .ok (.dup, 1) := by decide +kernel
theorem dX11_init_105 : decode cX11_init 105 = .ok (.invokespecial 52, 3) := by decide +kernel
theorem dX11_init_108 : decode cX11_init 108 = .ok (.putfield 53, 3) := by decide +kernel
theorem dX11_init_111 : decode cX11_init 111 = .ok (.aload_n 0, 1) := by decide +kernel
theorem dX11_init_112 : decode cX11_init 112 = .ok (.new 57, 3) := by decide +kernel
theorem dX11_init_115 : decode cX11_init 115 = .ok (.dup, 1) := by decide +kernel
theorem dX11_init_116 : decode cX11_init 116 = .ok (.invokespecial 59, 3) := by decide +kernel
theorem dX11_init_119 : decode cX11_init 119 = .ok (.putfield 60, 3) := by decide +kernel
theorem dX11_init_122 : decode cX11_init 122 = .ok (.aload_n 0, 1) := by decide +kernel
theorem dX11_init_123 : decode cX11_init 123 = .ok (.new 64, 3) := by decide +kernel
theorem dX11_init_126 : decode cX11_init 126 = .ok (.dup, 1) := by decide +kernel
theorem dX11_init_127 : decode cX11_init 127 = .ok (.invokespecial 66, 3) := by decide +kernel
theorem dX11_init_130 : decode cX11_init 130 = .ok (.putfield 67, 3) := by decide +kernel
theorem dX11_init_133 : decode cX11_init 133 = .ok (.aload_n 0, 1) := by decide +kernel
theorem dX11_init_134 : decode cX11_init 134 = .ok (.new 71, 3) := by decide +kernel
theorem dX11_init_137 : decode cX11_init 137 = .ok (.dup, 1) := by decide +kernel
theorem dX11_init_138 : decode cX11_init 138 = .ok (.invokespecial 73, 3) := by decide +kernel
theorem dX11_init_141 : decode cX11_init 141 = .ok (.putfield 74, 3) := by decide +kernel
theorem dX11_init_144 : decode cX11_init 144 = .ok (.return_, 1) := by decide +kernel
theorem dX11_type_0 : decode cX11_type 0 = .ok (.iload_n 1, 1) := by decide +kernel
theorem dX11_type_1 : decode cX11_type 1 = .ok (.ifCond .lt 10, 3) := by decide +kernel
theorem dX11_type_4 : decode cX11_type 4 = .ok (.iload_n 1, 1) := by decide +kernel
theorem dX11_type_5 : decode cX11_type 5 = .ok (.sipush 255, 3) := by decide +kernel
theorem dX11_type_8 : decode cX11_type 8 = .ok (.if_icmp .le 5, 3) := by decide +kernel
theorem dX11_type_11 : decode cX11_type 11 = .ok (.iconst (-1), 1) := by decide +kernel
theorem dX11_type_12 : decode cX11_type 12 = .ok (.ireturn, 1) := by decide +kernel
theorem dX11_type_13 : decode cX11_type 13 = .ok (.aload_n 0, 1) := by decide +kernel
theorem dX11_type_14 : decode cX11_type 14 = .ok (.getfield 20, 3) := by decide +kernel
theorem dX11_type_17 : decode cX11_type 17 = .ok (.getfield 78, 3) := by decide +kernel
theorem dX11_type_20 : decode cX11_type 20 = .ok (.bipush 120, 2) := by decide +kernel
theorem dX11_type_22 : decode cX11_type 22 = .ok (.if_icmp .lt 6, 3) := by decide +kernel
theorem dX11_type_25 : decode cX11_type 25 = .ok (.bipush (-3), 2) := by decide +kernel
theorem dX11_type_27 : decode cX11_type 27 = .ok (.ireturn, 1) := by decide +kernel
theorem dX11_type_28 : decode cX11_type 28 = .ok (.aload_n 0, 1) := by decide +kernel
theorem dX11_type_29 : decode cX11_type 29 = .ok (.getfield 20, 3) := by decide +kernel
theorem dX11_type_32 : decode cX11_type 32 = .ok (.iload_n 1, 1) := by decide +kernel
theorem dX11_type_33 : decode cX11_type 33 = .ok (.invokevirtual 84, 3) := by decide +kernel
theorem dX11_type_36 : decode cX11_type 36 = .ok (.aload_n 0, 1) := by decide +kernel
theorem dX11_type_37 : decode cX11_type 37 = .ok (.getfield 20, 3) := by decide +kernel
theorem dX11_type_40 : decode cX11_type 40 = .ok (.getfield 78, 3) := by decide +kernel
theorem dX11_type_43 : decode cX11_type 43 = .ok (.ireturn, 1) := by decide +kernel
theorem dX11_clear_0 : decode cX11_clear 0 = .ok (.aload_n 0, 1) := by decide +kernel
theorem dX11_clear_1 : decode cX11_clear 1 = .ok (.getfield 20, 3) := by decide +kernel
theorem dX11_clear_4 : decode cX11_clear 4 = .ok (.getfield 78, 3) := by decide +kernel
theorem dX11_clear_7 : decode cX11_clear 7 = .ok (.istore_n 1, 1) := by decide +kernel
theorem dX11_clear_8 : decode cX11_clear 8 = .ok (.aload_n 0, 1) := by decide +kernel
theorem dX11_clear_9 : decode cX11_clear 9 = .ok (.getfield 20, 3) := by decide +kernel
theorem dX11_clear_12 : decode cX11_clear 12 = .ok (.iconst 0, 1) := by decide +kernel
theorem dX11_clear_13 : decode cX11_clear 13 = .ok (.putfield 78, 3) := by decide +kernel
theorem dX11_clear_16 : decode cX11_clear 16 = .ok (.iload_n 1, 1) := by decide +kernel
theorem dX11_clear_17 : decode cX11_clear 17 = .ok (.ireturn, 1) := by decide +kernel
theorem dX11_tells_0 : decode cX11_tells 0 = .ok (.aload_n 0, 1) := by decide +kernel
theorem dX11_tells_1 : decode cX11_tells 1 = .ok (.getfield 10, 3) := by decide +kernel
theorem dX11_tells_4 : decode cX11_tells 4 = .ok (.invokevirtual 88, 3) := by decide +kernel
theorem dX11_tells_7 : decode cX11_tells 7 = .ok (.istore_n 1, 1) := by decide +kernel
theorem dX11_tells_8 : decode cX11_tells 8 = .ok (.iload_n 1, 1) := by decide +kernel
theorem dX11_tells_9 : decode cX11_tells 9 = .ok (.ifCond .ge 5, 3) := by decide +kernel
theorem dX11_tells_12 : decode cX11_tells 12 = .ok (.iload_n 1, 1) := by decide +kernel
theorem dX11_tells_13 : decode cX11_tells 13 = .ok (.ireturn, 1) := by decide +kernel
theorem dX11_tells_14 : decode cX11_tells 14 = .ok (.aload_n 0, 1) := by decide +kernel
theorem dX11_tells_15 : decode cX11_tells 15 = .ok (.getfield 31, 3) := by decide +kernel
theorem dX11_tells_18 : decode cX11_tells 18 = .ok (.aload_n 0, 1) := by decide +kernel
theorem dX11_tells_19 : decode cX11_tells 19 = .ok (.getfield 24, 3) := by decide +kernel
theorem dX11_tells_22 : decode cX11_tells 22 = .ok (.invokevirtual 92, 3) := by decide +kernel
theorem dX11_tells_25 : decode cX11_tells 25 = .ok (.aload_n 0, 1) := by decide +kernel
theorem dX11_tells_26 : decode cX11_tells 26 = .ok (.getfield 24, 3) := by decide +kernel
theorem dX11_tells_29 : decode cX11_tells 29 = .ok (.getfield 96, 3) := by decide +kernel
theorem dX11_tells_32 : decode cX11_tells 32 = .ok (.aload_n 0, 1) := by decide +kernel
theorem dX11_tells_33 : decode cX11_tells 33 = .ok (.getfield 10, 3) := by decide +kernel
theorem dX11_tells_36 : decode cX11_tells 36 = .ok (.getfield 100, 3) := by decide +kernel
theorem dX11_tells_39 : decode cX11_tells 39 = .ok (.invokevirtual 101, 3) := by decide +kernel
theorem dX11_tells_42 : decode cX11_tells 42 = .ok (.aload_n 0, 1) := by decide +kernel
theorem dX11_tells_43 : decode cX11_tells 43 = .ok (.getfield 20, 3) := by decide +kernel
theorem dX11_tells_46 : decode cX11_tells 46 = .ok (.iconst 0, 1) := by decide +kernel
theorem dX11_tells_47 : decode cX11_tells 47 = .ok (.putfield 78, 3) := by decide +kernel
theorem dX11_tells_50 : decode cX11_tells 50 = .ok (.aload_n 0, 1) := by decide +kernel
theorem dX11_tells_51 : decode cX11_tells 51 = .ok (.invokevirtual 107, 3) := by decide +kernel
theorem dX11_tells_54 : decode cX11_tells 54 = .ok (.iload_n 1, 1) := by decide +kernel
theorem dX11_tells_55 : decode cX11_tells 55 = .ok (.ireturn, 1) := by decide +kernel
theorem dX11_comes_0 : decode cX11_comes 0 = .ok (.iload_n 1, 1) := by decide +kernel
theorem dX11_comes_1 : decode cX11_comes 1 = .ok (.ifCond .lt 16, 3) := by decide +kernel
theorem dX11_comes_4 : decode cX11_comes 4 = .ok (.iload_n 1, 1) := by decide +kernel
theorem dX11_comes_5 : decode cX11_comes 5 = .ok (.bipush 99, 2) := by decide +kernel
theorem dX11_comes_7 : decode cX11_comes 7 = .ok (.if_icmp .gt 10, 3) := by decide +kernel
theorem dX11_comes_10 : decode cX11_comes 10 = .ok (.iload_n 2, 1) := by decide +kernel
theorem dX11_comes_11 : decode cX11_comes 11 = .ok (.invokestatic 110, 3) := by decide +kernel
theorem dX11_comes_14 : decode cX11_comes 14 = .ok (.ifCond .ne 5, 3) := by decide +kernel
theorem dX11_comes_17 : decode cX11_comes 17 = .ok (.iconst (-1), 1) := by decide +kernel
theorem dX11_comes_18 : decode cX11_comes 18 = .ok (.ireturn, 1) := by decide +kernel
theorem dX11_comes_19 : decode cX11_comes 19 = .ok (.aload_n 0, 1) := by decide +kernel
theorem dX11_comes_20 : decode cX11_comes 20 = .ok (.getfield 24, 3) := by decide +kernel
theorem dX11_comes_23 : decode cX11_comes 23 = .ok (.getfield 114, 3) := by decide +kernel
theorem dX11_comes_26 : decode cX11_comes 26 = .ok (.astore_n 3, 1) := by decide +kernel
theorem dX11_comes_27 : decode cX11_comes 27 = .ok (.aload_n 3, 1) := by decide +kernel
theorem dX11_comes_28 : decode cX11_comes 28 = .ok (.iload_n 1, 1) := by decide +kernel
theorem dX11_comes_29 : decode cX11_comes 29 = .ok (.invokevirtual 118, 3) := by decide +kernel
theorem dX11_comes_32 : decode cX11_comes 32 = .ok (.istore 4, 2) := by decide +kernel
theorem dX11_comes_34 : decode cX11_comes 34 = .ok (.aload_n 0, 1) := by decide +kernel
theorem dX11_comes_35 : decode cX11_comes 35 = .ok (.iload 4, 2) := by decide +kernel
theorem dX11_comes_37 : decode cX11_comes 37 = .ok (.invokevirtual 124, 3) := by decide +kernel
theorem dX11_comes_40 : decode cX11_comes 40 = .ok (.ifCond .eq 17, 3) := by decide +kernel
theorem dX11_comes_43 : decode cX11_comes 43 = .ok (.aload_n 3, 1) := by decide +kernel
theorem dX11_comes_44 : decode cX11_comes 44 = .ok (.getfield 127, 3) := by decide +kernel
theorem dX11_comes_47 : decode cX11_comes 47 = .ok (.iload 4, 2) := by decide +kernel
theorem dX11_comes_49 : decode cX11_comes 49 = .ok (.iaload, 1) := by decide +kernel
theorem dX11_comes_50 : decode cX11_comes 50 = .ok (.iload_n 1, 1) := by decide +kernel
theorem dX11_comes_51 : decode cX11_comes 51 = .ok (.if_icmp .ne 6, 3) := by decide +kernel
theorem dX11_comes_54 : decode cX11_comes 54 = .ok (.bipush (-2), 2) := by decide +kernel
theorem dX11_comes_56 : decode cX11_comes 56 = .ok (.ireturn, 1) := by decide +kernel
theorem dX11_comes_57 : decode cX11_comes 57 = .ok (.aload_n 3, 1) := by decide +kernel
theorem dX11_comes_58 : decode cX11_comes 58 = .ok (.getfield 131, 3) := by decide +kernel
theorem dX11_comes_61 : decode cX11_comes 61 = .ok (.bipush 40, 2) := by decide +kernel
theorem dX11_comes_63 : decode cX11_comes 63 = .ok (.if_icmp .lt 6, 3) := by decide +kernel
theorem dX11_comes_66 : decode cX11_comes 66 = .ok (.bipush (-3), 2) := by decide +kernel
theorem dX11_comes_68 : decode cX11_comes 68 = .ok (.ireturn, 1) := by decide +kernel
theorem dX11_comes_69 : decode cX11_comes 69 = .ok (.aload_n 0, 1) := by decide +kernel
theorem dX11_comes_70 : decode cX11_comes 70 = .ok (.getfield 31, 3) := by decide +kernel
theorem dX11_comes_73 : decode cX11_comes 73 = .ok (.aload_n 0, 1) := by decide +kernel
theorem dX11_comes_74 : decode cX11_comes 74 = .ok (.getfield 24, 3) := by decide +kernel
theorem dX11_comes_77 : decode cX11_comes 77 = .ok (.invokevirtual 92, 3) := by decide +kernel
theorem dX11_comes_80 : decode cX11_comes 80 = .ok (.aload_n 3, 1) := by decide +kernel
theorem dX11_comes_81 : decode cX11_comes 81 = .ok (.iload 4, 2) := by decide +kernel
theorem dX11_comes_83 : decode cX11_comes 83 = .ok (.iload_n 1, 1) := by decide +kernel
theorem dX11_comes_84 : decode cX11_comes 84 = .ok (.iload_n 2, 1) := by decide +kernel
theorem dX11_comes_85 : decode cX11_comes 85 = .ok (.invokevirtual 132, 3) := by decide +kernel
theorem dX11_comes_88 : decode cX11_comes 88 = .ok (.aload_n 0, 1) := by decide +kernel
theorem dX11_comes_89 : decode cX11_comes 89 = .ok (.invokevirtual 107, 3) := by decide +kernel
theorem dX11_comes_92 : decode cX11_comes 92 = .ok (.iload 4, 2) := by decide +kernel
theorem dX11_comes_94 : decode cX11_comes 94 = .ok (.ireturn, 1) := by decide +kernel
theorem dX11_goes_0 : decode cX11_goes 0 = .ok (.aload_n 0, 1) := by decide +kernel
theorem dX11_goes_1 : decode cX11_goes 1 = .ok (.getfield 24, 3) := by decide +kernel
theorem dX11_goes_4 : decode cX11_goes 4 = .ok (.getfield 114, 3) := by decide +kernel
theorem dX11_goes_7 : decode cX11_goes 7 = .ok (.astore_n 2, 1) := by decide +kernel
theorem dX11_goes_8 : decode cX11_goes 8 = .ok (.aload_n 0, 1) := by decide +kernel
theorem dX11_goes_9 : decode cX11_goes 9 = .ok (.iload_n 1, 1) := by decide +kernel
theorem dX11_goes_10 : decode cX11_goes 10 = .ok (.invokevirtual 124, 3) := by decide +kernel
theorem dX11_goes_13 : decode cX11_goes 13 = .ok (.ifCond .ne 5, 3) := by decide +kernel
theorem dX11_goes_16 : decode cX11_goes 16 = .ok (.iconst (-1), 1) := by decide +kernel
theorem dX11_goes_17 : decode cX11_goes 17 = .ok (.ireturn, 1) := by decide +kernel
theorem dX11_goes_18 : decode cX11_goes 18 = .ok (.aload_n 2, 1) := by decide +kernel
theorem dX11_goes_19 : decode cX11_goes 19 = .ok (.getfield 127, 3) := by decide +kernel
theorem dX11_goes_22 : decode cX11_goes 22 = .ok (.iload_n 1, 1) := by decide +kernel
theorem dX11_goes_23 : decode cX11_goes 23 = .ok (.iaload, 1) := by decide +kernel
theorem dX11_goes_24 : decode cX11_goes 24 = .ok (.istore_n 3, 1) := by decide +kernel
theorem dX11_goes_25 : decode cX11_goes 25 = .ok (.aload_n 0, 1) := by decide +kernel
theorem dX11_goes_26 : decode cX11_goes 26 = .ok (.getfield 31, 3) := by decide +kernel
theorem dX11_goes_29 : decode cX11_goes 29 = .ok (.aload_n 0, 1) := by decide +kernel
theorem dX11_goes_30 : decode cX11_goes 30 = .ok (.getfield 24, 3) := by decide +kernel
theorem dX11_goes_33 : decode cX11_goes 33 = .ok (.invokevirtual 92, 3) := by decide +kernel
theorem dX11_goes_36 : decode cX11_goes 36 = .ok (.aload_n 2, 1) := by decide +kernel
theorem dX11_goes_37 : decode cX11_goes 37 = .ok (.iload_n 1, 1) := by decide +kernel
theorem dX11_goes_38 : decode cX11_goes 38 = .ok (.invokevirtual 136, 3) := by decide +kernel
theorem dX11_goes_41 : decode cX11_goes 41 = .ok (.aload_n 0, 1) := by decide +kernel
theorem dX11_goes_42 : decode cX11_goes 42 = .ok (.invokevirtual 107, 3) := by decide +kernel
theorem dX11_goes_45 : decode cX11_goes 45 = .ok (.iload_n 3, 1) := by decide +kernel
theorem dX11_goes_46 : decode cX11_goes 46 = .ok (.ireturn, 1) := by decide +kernel
theorem dX11_becomes_0 : decode cX11_becomes 0 = .ok (.aload_n 0, 1) := by decide +kernel
theorem dX11_becomes_1 : decode cX11_becomes 1 = .ok (.getfield 24, 3) := by decide +kernel
theorem dX11_becomes_4 : decode cX11_becomes 4 = .ok (.getfield 114, 3) := by decide +kernel
theorem dX11_becomes_7 : decode cX11_becomes 7 = .ok (.astore_n 3, 1) := by decide +kernel
theorem dX11_becomes_8 : decode cX11_becomes 8 = .ok (.aload_n 0, 1) := by decide +kernel
theorem dX11_becomes_9 : decode cX11_becomes 9 = .ok (.iload_n 1, 1) := by decide +kernel
theorem dX11_becomes_10 : decode cX11_becomes 10 = .ok (.invokevirtual 124, 3) := by decide +kernel
theorem dX11_becomes_13 : decode cX11_becomes 13 = .ok (.ifCond .eq 10, 3) := by decide +kernel
theorem dX11_becomes_16 : decode cX11_becomes 16 = .ok (.iload_n 2, 1) := by decide +kernel
theorem dX11_becomes_17 : decode cX11_becomes 17 = .ok (.invokestatic 110, 3) := by decide +kernel
theorem dX11_becomes_20 : decode cX11_becomes 20 = .ok (.ifCond .ne 5, 3) := by decide +kernel
theorem dX11_becomes_23 : decode cX11_becomes 23 = .ok (.iconst (-1), 1) := by decide +kernel
theorem dX11_becomes_24 : decode cX11_becomes 24 = .ok (.ireturn, 1) := by decide +kernel
theorem dX11_becomes_25 : decode cX11_becomes 25 = .ok (.aload_n 3, 1) := by decide +kernel
theorem dX11_becomes_26 : decode cX11_becomes 26 = .ok (.getfield 139, 3) := by decide +kernel
theorem dX11_becomes_29 : decode cX11_becomes 29 = .ok (.iload_n 1, 1) := by decide +kernel
theorem dX11_becomes_30 : decode cX11_becomes 30 = .ok (.iaload, 1) := by decide +kernel
theorem dX11_becomes_31 : decode cX11_becomes 31 = .ok (.istore 4, 2) := by decide +kernel
theorem dX11_becomes_33 : decode cX11_becomes 33 = .ok (.iload 4, 2) := by decide +kernel
theorem dX11_becomes_35 : decode cX11_becomes 35 = .ok (.iload_n 2, 1) := by decide +kernel
theorem dX11_becomes_36 : decode cX11_becomes 36 = .ok (.if_icmp .ne 6, 3) := by decide +kernel
theorem dX11_becomes_39 : decode cX11_becomes 39 = .ok (.bipush (-2), 2) := by decide +kernel
theorem dX11_becomes_41 : decode cX11_becomes 41 = .ok (.ireturn, 1) := by decide +kernel
theorem dX11_becomes_42 : decode cX11_becomes 42 = .ok (.aload_n 0, 1) := by decide +kernel
theorem dX11_becomes_43 : decode cX11_becomes 43 = .ok (.getfield 31, 3) := by decide +kernel
theorem dX11_becomes_46 : decode cX11_becomes 46 = .ok (.aload_n 0, 1) := by decide +kernel
theorem dX11_becomes_47 : decode cX11_becomes 47 = .ok (.getfield 24, 3) := by decide +kernel
theorem dX11_becomes_50 : decode cX11_becomes 50 = .ok (.invokevirtual 92, 3) := by decide +kernel
theorem dX11_becomes_53 : decode cX11_becomes 53 = .ok (.aload_n 3, 1) := by decide +kernel
theorem dX11_becomes_54 : decode cX11_becomes 54 = .ok (.getfield 139, 3) := by decide +kernel
theorem dX11_becomes_57 : decode cX11_becomes 57 = .ok (.iload_n 1, 1) := by decide +kernel
theorem dX11_becomes_58 : decode cX11_becomes 58 = .ok (.iload_n 2, 1) := by decide +kernel
theorem dX11_becomes_59 : decode cX11_becomes 59 = .ok (.iastore, 1) := by decide +kernel
theorem dX11_becomes_60 : decode cX11_becomes 60 = .ok (.aload_n 0, 1) := by decide +kernel
theorem dX11_becomes_61 : decode cX11_becomes 61 = .ok (.invokevirtual 107, 3) := by decide +kernel
theorem dX11_becomes_64 : decode cX11_becomes 64 = .ok (.iload 4, 2) := by decide +kernel
theorem dX11_becomes_66 : decode cX11_becomes 66 = .ok (.ireturn, 1) := by decide +kernel
theorem dX11_undo_0 : decode cX11_undo 0 = .ok (.aload_n 0, 1) := by decide +kernel
theorem dX11_undo_1 : decode cX11_undo 1 = .ok (.getfield 31, 3) := by decide +kernel
theorem dX11_undo_4 : decode cX11_undo 4 = .ok (.getfield 142, 3) := by decide +kernel
theorem dX11_undo_7 : decode cX11_undo 7 = .ok (.ifCond .gt 6, 3) := by decide +kernel
theorem dX11_undo_10 : decode cX11_undo 10 = .ok (.bipush (-2), 2) := by decide +kernel
theorem dX11_undo_12 : decode cX11_undo 12 = .ok (.ireturn, 1) := by decide +kernel
theorem dX11_undo_13 : decode cX11_undo 13 = .ok (.aload_n 0, 1) := by decide +kernel
theorem dX11_undo_14 : decode cX11_undo 14 = .ok (.getfield 31, 3) := by decide +kernel
theorem dX11_undo_17 : decode cX11_undo 17 = .ok (.aload_n 0, 1) := by decide +kernel
theorem dX11_undo_18 : decode cX11_undo 18 = .ok (.getfield 24, 3) := by decide +kernel
theorem dX11_undo_21 : decode cX11_undo 21 = .ok (.invokevirtual 143, 3) := by decide +kernel
theorem dX11_undo_24 : decode cX11_undo 24 = .ok (.aload_n 0, 1) := by decide +kernel
theorem dX11_undo_25 : decode cX11_undo 25 = .ok (.invokevirtual 107, 3) := by decide +kernel
theorem dX11_undo_28 : decode cX11_undo 28 = .ok (.aload_n 0, 1) := by decide +kernel
theorem dX11_undo_29 : decode cX11_undo 29 = .ok (.getfield 31, 3) := by decide +kernel
theorem dX11_undo_32 : decode cX11_undo 32 = .ok (.getfield 142, 3) := by decide +kernel
theorem dX11_undo_35 : decode cX11_undo 35 = .ok (.ireturn, 1) := by decide +kernel
theorem dX11_rule_0 : decode cX11_rule 0 = .ok (.aload_n 0, 1) := by decide +kernel
theorem dX11_rule_1 : decode cX11_rule 1 = .ok (.getfield 24, 3) := by decide +kernel
theorem dX11_rule_4 : decode cX11_rule 4 = .ok (.getfield 96, 3) := by decide +kernel
theorem dX11_rule_7 : decode cX11_rule 7 = .ok (.astore_n 3, 1) := by decide +kernel
theorem dX11_rule_8 : decode cX11_rule 8 = .ok (.iload_n 1, 1) := by decide +kernel
theorem dX11_rule_9 : decode cX11_rule 9 = .ok (.ifCond .lt 16, 3) := by decide +kernel
theorem dX11_rule_12 : decode cX11_rule 12 = .ok (.iload_n 1, 1) := by decide +kernel
theorem dX11_rule_13 : decode cX11_rule 13 = .ok (.aload_n 3, 1) := by decide +kernel
theorem dX11_rule_14 : decode cX11_rule 14 = .ok (.getfield 146, 3) := by decide +kernel
theorem dX11_rule_17 : decode cX11_rule 17 = .ok (.if_icmp .ge 8, 3) := by decide +kernel
theorem dX11_rule_20 : decode cX11_rule 20 = .ok (.iload_n 1, 1) := by decide +kernel
theorem dX11_rule_21 : decode cX11_rule 21 = .ok (.iconst 3, 1) := by decide +kernel
theorem dX11_rule_22 : decode cX11_rule 22 = .ok (.if_icmp .lt 5, 3) := by decide +kernel
theorem dX11_rule_25 : decode cX11_rule 25 = .ok (.iconst (-1), 1) := by decide +kernel
theorem dX11_rule_26 : decode cX11_rule 26 = .ok (.ireturn, 1) := by decide +kernel
theorem dX11_rule_27 : decode cX11_rule 27 = .ok (.iload_n 2, 1) := by decide +kernel
theorem dX11_rule_28 : decode cX11_rule 28 = .ok (.tableswitch 49 0 2 #[28, 35, 42], 28) := by decide +kernel
theorem dX11_rule_56 : decode cX11_rule 56 = .ok (.aload_n 3, 1) := by decide +kernel
theorem dX11_rule_57 : decode cX11_rule 57 = .ok (.getfield 149, 3) := by decide +kernel
theorem dX11_rule_60 : decode cX11_rule 60 = .ok (.iload_n 1, 1) := by decide +kernel
theorem dX11_rule_61 : decode cX11_rule 61 = .ok (.iaload, 1) := by decide +kernel
theorem dX11_rule_62 : decode cX11_rule 62 = .ok (.ireturn, 1) := by decide +kernel
theorem dX11_rule_63 : decode cX11_rule 63 = .ok (.aload_n 3, 1) := by decide +kernel
theorem dX11_rule_64 : decode cX11_rule 64 = .ok (.getfield 152, 3) := by decide +kernel
theorem dX11_rule_67 : decode cX11_rule 67 = .ok (.iload_n 1, 1) := by decide +kernel
theorem dX11_rule_68 : decode cX11_rule 68 = .ok (.iaload, 1) := by decide +kernel
theorem dX11_rule_69 : decode cX11_rule 69 = .ok (.ireturn, 1) := by decide +kernel
theorem dX11_rule_70 : decode cX11_rule 70 = .ok (.aload_n 3, 1) := by decide +kernel
theorem dX11_rule_71 : decode cX11_rule 71 = .ok (.getfield 155, 3) := by decide +kernel
theorem dX11_rule_74 : decode cX11_rule 74 = .ok (.iload_n 1, 1) := by decide +kernel
theorem dX11_rule_75 : decode cX11_rule 75 = .ok (.iaload, 1) := by decide +kernel
theorem dX11_rule_76 : decode cX11_rule 76 = .ok (.ireturn, 1) := by decide +kernel
theorem dX11_rule_77 : decode cX11_rule 77 = .ok (.iconst (-1), 1) := by decide +kernel
theorem dX11_rule_78 : decode cX11_rule 78 = .ok (.ireturn, 1) := by decide +kernel
theorem dX11_chance_0 : decode cX11_chance 0 = .ok (.iload_n 1, 1) := by decide +kernel
theorem dX11_chance_1 : decode cX11_chance 1 = .ok (.invokestatic 110, 3) := by decide +kernel
theorem dX11_chance_4 : decode cX11_chance 4 = .ok (.ifCond .eq 18, 3) := by decide +kernel
theorem dX11_chance_7 : decode cX11_chance 7 = .ok (.aload_n 0, 1) := by decide +kernel
theorem dX11_chance_8 : decode cX11_chance 8 = .ok (.getfield 24, 3) := by decide +kernel
theorem dX11_chance_11 : decode cX11_chance 11 = .ok (.getfield 96, 3) := by decide +kernel
theorem dX11_chance_14 : decode cX11_chance 14 = .ok (.getfield 158, 3) := by decide +kernel
theorem dX11_chance_17 : decode cX11_chance 17 = .ok (.iload_n 1, 1) := by decide +kernel
theorem dX11_chance_18 : decode cX11_chance 18 = .ok (.iaload, 1) := by decide +kernel
theorem dX11_chance_19 : decode cX11_chance 19 = .ok (.goto 4, 3) := by decide +kernel
theorem dX11_chance_22 : decode cX11_chance 22 = .ok (.iconst (-1), 1) := by decide +kernel
theorem dX11_chance_23 : decode cX11_chance 23 = .ok (.ireturn, 1) := by decide +kernel
theorem dX11_row_0 : decode cX11_row 0 = .ok (.aload_n 0, 1) := by decide +kernel
theorem dX11_row_1 : decode cX11_row 1 = .ok (.iload_n 1, 1) := by decide +kernel
theorem dX11_row_2 : decode cX11_row 2 = .ok (.invokevirtual 124, 3) := by decide +kernel
theorem dX11_row_5 : decode cX11_row 5 = .ok (.ifCond .ne 5, 3) := by decide +kernel
theorem dX11_row_8 : decode cX11_row 8 = .ok (.iconst (-1), 1) := by decide +kernel
theorem dX11_row_9 : decode cX11_row 9 = .ok (.ireturn, 1) := by decide +kernel
theorem dX11_row_10 : decode cX11_row 10 = .ok (.iload_n 2, 1) := by decide +kernel
theorem dX11_row_11 : decode cX11_row 11 = .ok (.tableswitch 124 0 6 #[41, 54, 67, 77, 94, 104, 114], 41) := by decide +kernel
theorem dX11_row_52 : decode cX11_row 52 = .ok (.aload_n 0, 1) := by decide +kernel
theorem dX11_row_53 : decode cX11_row 53 = .ok (.getfield 24, 3) := by decide +kernel
theorem dX11_row_56 : decode cX11_row 56 = .ok (.getfield 114, 3) := by decide +kernel
theorem dX11_row_59 : decode cX11_row 59 = .ok (.getfield 127, 3) := by decide +kernel
theorem dX11_row_62 : decode cX11_row 62 = .ok (.iload_n 1, 1) := by decide +kernel
theorem dX11_row_63 : decode cX11_row 63 = .ok (.iaload, 1) := by decide +kernel
theorem dX11_row_64 : decode cX11_row 64 = .ok (.ireturn, 1) := by decide +kernel
theorem dX11_row_65 : decode cX11_row 65 = .ok (.aload_n 0, 1) := by decide +kernel
theorem dX11_row_66 : decode cX11_row 66 = .ok (.getfield 24, 3) := by decide +kernel
theorem dX11_row_69 : decode cX11_row 69 = .ok (.getfield 114, 3) := by decide +kernel
theorem dX11_row_72 : decode cX11_row 72 = .ok (.getfield 139, 3) := by decide +kernel
theorem dX11_row_75 : decode cX11_row 75 = .ok (.iload_n 1, 1) := by decide +kernel
theorem dX11_row_76 : decode cX11_row 76 = .ok (.iaload, 1) := by decide +kernel
theorem dX11_row_77 : decode cX11_row 77 = .ok (.ireturn, 1) := by decide +kernel
theorem dX11_row_78 : decode cX11_row 78 = .ok (.aload_n 0, 1) := by decide +kernel
theorem dX11_row_79 : decode cX11_row 79 = .ok (.getfield 46, 3) := by decide +kernel
theorem dX11_row_82 : decode cX11_row 82 = .ok (.getfield 161, 3) := by decide +kernel
theorem dX11_row_85 : decode cX11_row 85 = .ok (.iload_n 1, 1) := by decide +kernel
theorem dX11_row_86 : decode cX11_row 86 = .ok (.iaload, 1) := by decide +kernel
theorem dX11_row_87 : decode cX11_row 87 = .ok (.ireturn, 1) := by decide +kernel
theorem dX11_row_88 : decode cX11_row 88 = .ok (.aload_n 0, 1) := by decide +kernel
theorem dX11_row_89 : decode cX11_row 89 = .ok (.invokevirtual 164, 3) := by decide +kernel
theorem dX11_row_92 : decode cX11_row 92 = .ok (.aload_n 0, 1) := by decide +kernel
theorem dX11_row_93 : decode cX11_row 93 = .ok (.getfield 46, 3) := by decide +kernel
theorem dX11_row_96 : decode cX11_row 96 = .ok (.getfield 168, 3) := by decide +kernel
theorem dX11_row_99 : decode cX11_row 99 = .ok (.iload_n 1, 1) := by decide +kernel
theorem dX11_row_100 : decode cX11_row 100 = .ok (.iaload, 1) := by decide +kernel
theorem dX11_row_101 : decode cX11_row 101 = .ok (.invokevirtual 171, 3) := by decide +kernel
theorem dX11_row_104 : decode cX11_row 104 = .ok (.ireturn, 1) := by decide +kernel
theorem dX11_row_105 : decode cX11_row 105 = .ok (.aload_n 0, 1) := by decide +kernel
theorem dX11_row_106 : decode cX11_row 106 = .ok (.getfield 46, 3) := by decide +kernel
theorem dX11_row_109 : decode cX11_row 109 = .ok (.getfield 174, 3) := by decide +kernel
theorem dX11_row_112 : decode cX11_row 112 = .ok (.iload_n 1, 1) := by decide +kernel
theorem dX11_row_113 : decode cX11_row 113 = .ok (.iaload, 1) := by decide +kernel
theorem dX11_row_114 : decode cX11_row 114 = .ok (.ireturn, 1) := by decide +kernel
theorem dX11_row_115 : decode cX11_row 115 = .ok (.aload_n 0, 1) := by decide +kernel
theorem dX11_row_116 : decode cX11_row 116 = .ok (.getfield 46, 3) := by decide +kernel
theorem dX11_row_119 : decode cX11_row 119 = .ok (.getfield 177, 3) := by decide +kernel
theorem dX11_row_122 : decode cX11_row 122 = .ok (.iload_n 1, 1) := by decide +kernel
theorem dX11_row_123 : decode cX11_row 123 = .ok (.iaload, 1) := by decide +kernel
theorem dX11_row_124 : decode cX11_row 124 = .ok (.ireturn, 1) := by decide +kernel
theorem dX11_row_125 : decode cX11_row 125 = .ok (.aload_n 0, 1) := by decide +kernel
theorem dX11_row_126 : decode cX11_row 126 = .ok (.getfield 46, 3) := by decide +kernel
theorem dX11_row_129 : decode cX11_row 129 = .ok (.getfield 180, 3) := by decide +kernel
theorem dX11_row_132 : decode cX11_row 132 = .ok (.iload_n 1, 1) := by decide +kernel
theorem dX11_row_133 : decode cX11_row 133 = .ok (.iaload, 1) := by decide +kernel
theorem dX11_row_134 : decode cX11_row 134 = .ok (.ireturn, 1) := by decide +kernel
theorem dX11_row_135 : decode cX11_row 135 = .ok (.iconst (-1), 1) := by decide +kernel
theorem dX11_row_136 : decode cX11_row 136 = .ok (.ireturn, 1) := by decide +kernel
theorem dX11_alarm_0 : decode cX11_alarm 0 = .ok (.aload_n 0, 1) := by decide +kernel
theorem dX11_alarm_1 : decode cX11_alarm 1 = .ok (.aload_n 0, 1) := by decide +kernel
theorem dX11_alarm_2 : decode cX11_alarm 2 = .ok (.getfield 46, 3) := by decide +kernel
theorem dX11_alarm_5 : decode cX11_alarm 5 = .ok (.getfield 161, 3) := by decide +kernel
theorem dX11_alarm_8 : decode cX11_alarm 8 = .ok (.iload_n 1, 1) := by decide +kernel
theorem dX11_alarm_9 : decode cX11_alarm 9 = .ok (.invokevirtual 183, 3) := by decide +kernel
theorem dX11_alarm_12 : decode cX11_alarm 12 = .ok (.ireturn, 1) := by decide +kernel
theorem dX11_signal_0 : decode cX11_signal 0 = .ok (.aload_n 0, 1) := by decide +kernel
theorem dX11_signal_1 : decode cX11_signal 1 = .ok (.aload_n 0, 1) := by decide +kernel
theorem dX11_signal_2 : decode cX11_signal 2 = .ok (.getfield 46, 3) := by decide +kernel
theorem dX11_signal_5 : decode cX11_signal 5 = .ok (.getfield 180, 3) := by decide +kernel
theorem dX11_signal_8 : decode cX11_signal 8 = .ok (.iload_n 1, 1) := by decide +kernel
theorem dX11_signal_9 : decode cX11_signal 9 = .ok (.invokevirtual 183, 3) := by decide +kernel
theorem dX11_signal_12 : decode cX11_signal 12 = .ok (.ireturn, 1) := by decide +kernel
theorem dX11_step_0 : decode cX11_step 0 = .ok (.iload_n 2, 1) := by decide +kernel
theorem dX11_step_1 : decode cX11_step 1 = .ok (.invokestatic 110, 3) := by decide +kernel
theorem dX11_step_4 : decode cX11_step 4 = .ok (.ifCond .eq 24, 3) := by decide +kernel
theorem dX11_step_7 : decode cX11_step 7 = .ok (.iload_n 1, 1) := by decide +kernel
theorem dX11_step_8 : decode cX11_step 8 = .ok (.ifCond .lt 20, 3) := by decide +kernel
theorem dX11_step_11 : decode cX11_step 11 = .ok (.iload_n 1, 1) := by decide +kernel
theorem dX11_step_12 : decode cX11_step 12 = .ok (.aload_n 0, 1) := by decide +kernel
theorem dX11_step_13 : decode cX11_step 13 = .ok (.invokevirtual 164, 3) := by decide +kernel
theorem dX11_step_16 : decode cX11_step 16 = .ok (.getfield 187, 3) := by decide +kernel
theorem dX11_step_19 : decode cX11_step 19 = .ok (.if_icmp .ge 9, 3) := by decide +kernel
theorem dX11_step_22 : decode cX11_step 22 = .ok (.iload_n 1, 1) := by decide +kernel
theorem dX11_step_23 : decode cX11_step 23 = .ok (.bipush 64, 2) := by decide +kernel
theorem dX11_step_25 : decode cX11_step 25 = .ok (.if_icmp .lt 5, 3) := by decide +kernel
theorem dX11_step_28 : decode cX11_step 28 = .ok (.iconst (-1), 1) := by decide +kernel
theorem dX11_step_29 : decode cX11_step 29 = .ok (.ireturn, 1) := by decide +kernel
theorem dX11_step_30 : decode cX11_step 30 = .ok (.aload_n 0, 1) := by decide +kernel
theorem dX11_step_31 : decode cX11_step 31 = .ok (.getfield 53, 3) := by decide +kernel
theorem dX11_step_34 : decode cX11_step 34 = .ok (.getfield 190, 3) := by decide +kernel
theorem dX11_step_37 : decode cX11_step 37 = .ok (.iload_n 1, 1) := by decide +kernel
theorem dX11_step_38 : decode cX11_step 38 = .ok (.iconst 5, 1) := by decide +kernel
theorem dX11_step_39 : decode cX11_step 39 = .ok (.imul, 1) := by decide +kernel
theorem dX11_step_40 : decode cX11_step 40 = .ok (.iload_n 2, 1) := by decide +kernel
theorem dX11_step_41 : decode cX11_step 41 = .ok (.iadd, 1) := by decide +kernel
theorem dX11_step_42 : decode cX11_step 42 = .ok (.iaload, 1) := by decide +kernel
theorem dX11_step_43 : decode cX11_step 43 = .ok (.ireturn, 1) := by decide +kernel
theorem dX11_soonest_0 : decode cX11_soonest 0 = .ok (.iload_n 1, 1) := by decide +kernel
theorem dX11_soonest_1 : decode cX11_soonest 1 = .ok (.iconst (-1), 1) := by decide +kernel
theorem dX11_soonest_2 : decode cX11_soonest 2 = .ok (.if_icmp .ge 5, 3) := by decide +kernel
theorem dX11_soonest_5 : decode cX11_soonest 5 = .ok (.iconst (-1), 1) := by decide +kernel
theorem dX11_soonest_6 : decode cX11_soonest 6 = .ok (.ireturn, 1) := by decide +kernel
theorem dX11_soonest_7 : decode cX11_soonest 7 = .ok (.aload_n 0, 1) := by decide +kernel
theorem dX11_soonest_8 : decode cX11_soonest 8 = .ok (.invokevirtual 193, 3) := by decide +kernel
theorem dX11_soonest_11 : decode cX11_soonest 11 = .ok (.istore_n 2, 1) := by decide +kernel
theorem dX11_soonest_12 : decode cX11_soonest 12 = .ok (.aload_n 0, 1) := by decide +kernel
theorem dX11_soonest_13 : decode cX11_soonest 13 = .ok (.getfield 53, 3) := by decide +kernel
theorem dX11_soonest_16 : decode cX11_soonest 16 = .ok (.iload_n 2, 1) := by decide +kernel
theorem dX11_soonest_17 : decode cX11_soonest 17 = .ok (.invokevirtual 196, 3) := by decide +kernel
theorem dX11_soonest_20 : decode cX11_soonest 20 = .ok (.istore_n 3, 1) := by decide +kernel
theorem dX11_soonest_21 : decode cX11_soonest 21 = .ok (.iload_n 3, 1) := by decide +kernel
theorem dX11_soonest_22 : decode cX11_soonest 22 = .ok (.bipush (-9), 2) := by decide +kernel
theorem dX11_soonest_24 : decode cX11_soonest 24 = .ok (.if_icmp .eq 8, 3) := by decide +kernel
theorem dX11_soonest_27 : decode cX11_soonest 27 = .ok (.iload_n 1, 1) := by decide +kernel
theorem dX11_soonest_28 : decode cX11_soonest 28 = .ok (.iload_n 3, 1) := by decide +kernel
theorem dX11_soonest_29 : decode cX11_soonest 29 = .ok (.if_icmp .lt 6, 3) := by decide +kernel
theorem dX11_soonest_32 : decode cX11_soonest 32 = .ok (.bipush (-9), 2) := by decide +kernel
theorem dX11_soonest_34 : decode cX11_soonest 34 = .ok (.ireturn, 1) := by decide +kernel
theorem dX11_soonest_35 : decode cX11_soonest 35 = .ok (.iload_n 1, 1) := by decide +kernel
theorem dX11_soonest_36 : decode cX11_soonest 36 = .ok (.iconst (-1), 1) := by decide +kernel
theorem dX11_soonest_37 : decode cX11_soonest 37 = .ok (.if_icmp .ne 7, 3) := by decide +kernel
theorem dX11_soonest_40 : decode cX11_soonest 40 = .ok (.iload_n 3, 1) := by decide +kernel
theorem dX11_soonest_41 : decode cX11_soonest 41 = .ok (.goto 12, 3) := by decide +kernel
theorem dX11_soonest_44 : decode cX11_soonest 44 = .ok (.aload_n 0, 1) := by decide +kernel
theorem dX11_soonest_45 : decode cX11_soonest 45 = .ok (.getfield 53, 3) := by decide +kernel
theorem dX11_soonest_48 : decode cX11_soonest 48 = .ok (.iload_n 2, 1) := by decide +kernel
theorem dX11_soonest_49 : decode cX11_soonest 49 = .ok (.iload_n 1, 1) := by decide +kernel
theorem dX11_soonest_50 : decode cX11_soonest 50 = .ok (.invokevirtual 199, 3) := by decide +kernel
theorem dX11_soonest_53 : decode cX11_soonest 53 = .ok (.ireturn, 1) := by decide +kernel
theorem dX11_odds_0 : decode cX11_odds 0 = .ok (.iload_n 1, 1) := by decide +kernel
theorem dX11_odds_1 : decode cX11_odds 1 = .ok (.ifCond .lt 18, 3) := by decide +kernel
theorem dX11_odds_4 : decode cX11_odds 4 = .ok (.iload_n 1, 1) := by decide +kernel
theorem dX11_odds_5 : decode cX11_odds 5 = .ok (.bipush 8, 2) := by decide +kernel
theorem dX11_odds_7 : decode cX11_odds 7 = .ok (.if_icmp .gt 12, 3) := by decide +kernel
theorem dX11_odds_10 : decode cX11_odds 10 = .ok (.iload_n 2, 1) := by decide +kernel
theorem dX11_odds_11 : decode cX11_odds 11 = .ok (.ifCond .lt 8, 3) := by decide +kernel
theorem dX11_odds_14 : decode cX11_odds 14 = .ok (.iload_n 2, 1) := by decide +kernel
theorem dX11_odds_15 : decode cX11_odds 15 = .ok (.iconst 1, 1) := by decide +kernel
theorem dX11_odds_16 : decode cX11_odds 16 = .ok (.if_icmp .le 5, 3) := by decide +kernel
theorem dX11_odds_19 : decode cX11_odds 19 = .ok (.iconst (-1), 1) := by decide +kernel
theorem dX11_odds_20 : decode cX11_odds 20 = .ok (.ireturn, 1) := by decide +kernel
theorem dX11_odds_21 : decode cX11_odds 21 = .ok (.aload_n 0, 1) := by decide +kernel
theorem dX11_odds_22 : decode cX11_odds 22 = .ok (.getfield 60, 3) := by decide +kernel
theorem dX11_odds_25 : decode cX11_odds 25 = .ok (.aload_n 0, 1) := by decide +kernel
theorem dX11_odds_26 : decode cX11_odds 26 = .ok (.getfield 53, 3) := by decide +kernel
theorem dX11_odds_29 : decode cX11_odds 29 = .ok (.aload_n 0, 1) := by decide +kernel
theorem dX11_odds_30 : decode cX11_odds 30 = .ok (.invokevirtual 193, 3) := by decide +kernel
theorem dX11_odds_33 : decode cX11_odds 33 = .ok (.aload_n 0, 1) := by decide +kernel
theorem dX11_odds_34 : decode cX11_odds 34 = .ok (.getfield 24, 3) := by decide +kernel
theorem dX11_odds_37 : decode cX11_odds 37 = .ok (.getfield 96, 3) := by decide +kernel
theorem dX11_odds_40 : decode cX11_odds 40 = .ok (.getfield 158, 3) := by decide +kernel
theorem dX11_odds_43 : decode cX11_odds 43 = .ok (.iload_n 1, 1) := by decide +kernel
theorem dX11_odds_44 : decode cX11_odds 44 = .ok (.invokevirtual 203, 3) := by decide +kernel
theorem dX11_odds_47 : decode cX11_odds 47 = .ok (.iload_n 2, 1) := by decide +kernel
theorem dX11_odds_48 : decode cX11_odds 48 = .ok (.ifCond .ne 13, 3) := by decide +kernel
theorem dX11_odds_51 : decode cX11_odds 51 = .ok (.aload_n 0, 1) := by decide +kernel
theorem dX11_odds_52 : decode cX11_odds 52 = .ok (.getfield 60, 3) := by decide +kernel
theorem dX11_odds_55 : decode cX11_odds 55 = .ok (.getfield 207, 3) := by decide +kernel
theorem dX11_odds_58 : decode cX11_odds 58 = .ok (.goto 10, 3) := by decide +kernel
theorem dX11_odds_61 : decode cX11_odds 61 = .ok (.aload_n 0, 1) := by decide +kernel
theorem dX11_odds_62 : decode cX11_odds 62 = .ok (.getfield 60, 3) := by decide +kernel
theorem dX11_odds_65 : decode cX11_odds 65 = .ok (.getfield 210, 3) := by decide +kernel
theorem dX11_odds_68 : decode cX11_odds 68 = .ok (.ireturn, 1) := by decide +kernel
theorem dX11_mean_0 : decode cX11_mean 0 = .ok (.aload_n 0, 1) := by decide +kernel
theorem dX11_mean_1 : decode cX11_mean 1 = .ok (.invokevirtual 193, 3) := by decide +kernel
theorem dX11_mean_4 : decode cX11_mean 4 = .ok (.istore_n 1, 1) := by decide +kernel
theorem dX11_mean_5 : decode cX11_mean 5 = .ok (.aload_n 0, 1) := by decide +kernel
theorem dX11_mean_6 : decode cX11_mean 6 = .ok (.getfield 67, 3) := by decide +kernel
theorem dX11_mean_9 : decode cX11_mean 9 = .ok (.aload_n 0, 1) := by decide +kernel
theorem dX11_mean_10 : decode cX11_mean 10 = .ok (.getfield 53, 3) := by decide +kernel
theorem dX11_mean_13 : decode cX11_mean 13 = .ok (.aload_n 0, 1) := by decide +kernel
theorem dX11_mean_14 : decode cX11_mean 14 = .ok (.getfield 24, 3) := by decide +kernel
theorem dX11_mean_17 : decode cX11_mean 17 = .ok (.getfield 96, 3) := by decide +kernel
theorem dX11_mean_20 : decode cX11_mean 20 = .ok (.invokevirtual 213, 3) := by decide +kernel
theorem dX11_mean_23 : decode cX11_mean 23 = .ok (.aload_n 0, 1) := by decide +kernel
theorem dX11_mean_24 : decode cX11_mean 24 = .ok (.getfield 67, 3) := by decide +kernel
theorem dX11_mean_27 : decode cX11_mean 27 = .ok (.getfield 217, 3) := by decide +kernel
theorem dX11_mean_30 : decode cX11_mean 30 = .ok (.ifCond .eq 22, 3) := by decide +kernel
theorem dX11_mean_33 : decode cX11_mean 33 = .ok (.iload_n 1, 1) := by decide +kernel
theorem dX11_mean_34 : decode cX11_mean 34 = .ok (.invokestatic 221, 3) := by decide +kernel
theorem dX11_mean_37 : decode cX11_mean 37 = .ok (.ifCond .eq 15, 3) := by decide +kernel
theorem dX11_mean_40 : decode cX11_mean 40 = .ok (.aload_n 0, 1) := by decide +kernel
theorem dX11_mean_41 : decode cX11_mean 41 = .ok (.getfield 67, 3) := by decide +kernel
theorem dX11_mean_44 : decode cX11_mean 44 = .ok (.getfield 224, 3) := by decide +kernel
theorem dX11_mean_47 : decode cX11_mean 47 = .ok (.iload_n 1, 1) := by decide +kernel
theorem dX11_mean_48 : decode cX11_mean 48 = .ok (.iaload, 1) := by decide +kernel
theorem dX11_mean_49 : decode cX11_mean 49 = .ok (.goto 5, 3) := by decide +kernel
theorem dX11_mean_52 : decode cX11_mean 52 = .ok (.bipush (-9), 2) := by decide +kernel
theorem dX11_mean_54 : decode cX11_mean 54 = .ok (.ireturn, 1) := by decide +kernel
theorem dX11_same_0 : decode cX11_same 0 = .ok (.iload_n 1, 1) := by decide +kernel
theorem dX11_same_1 : decode cX11_same 1 = .ok (.ifCond .lt 8, 3) := by decide +kernel
theorem dX11_same_4 : decode cX11_same 4 = .ok (.iload_n 1, 1) := by decide +kernel
theorem dX11_same_5 : decode cX11_same 5 = .ok (.iconst 1, 1) := by decide +kernel
theorem dX11_same_6 : decode cX11_same 6 = .ok (.if_icmp .le 5, 3) := by decide +kernel
theorem dX11_same_9 : decode cX11_same 9 = .ok (.iconst (-1), 1) := by decide +kernel
theorem dX11_same_10 : decode cX11_same 10 = .ok (.ireturn, 1) := by decide +kernel
theorem dX11_same_11 : decode cX11_same 11 = .ok (.aload_n 0, 1) := by decide +kernel
theorem dX11_same_12 : decode cX11_same 12 = .ok (.getfield 74, 3) := by decide +kernel
theorem dX11_same_15 : decode cX11_same 15 = .ok (.getfield 227, 3) := by decide +kernel
theorem dX11_same_18 : decode cX11_same 18 = .ok (.ifCond .ne 24, 3) := by decide +kernel
theorem dX11_same_21 : decode cX11_same 21 = .ok (.aload_n 0, 1) := by decide +kernel
theorem dX11_same_22 : decode cX11_same 22 = .ok (.getfield 74, 3) := by decide +kernel
theorem dX11_same_25 : decode cX11_same 25 = .ok (.aload_n 0, 1) := by decide +kernel
theorem dX11_same_26 : decode cX11_same 26 = .ok (.getfield 24, 3) := by decide +kernel
theorem dX11_same_29 : decode cX11_same 29 = .ok (.getfield 114, 3) := by decide +kernel
theorem dX11_same_32 : decode cX11_same 32 = .ok (.aload_n 0, 1) := by decide +kernel
theorem dX11_same_33 : decode cX11_same 33 = .ok (.getfield 46, 3) := by decide +kernel
theorem dX11_same_36 : decode cX11_same 36 = .ok (.getfield 161, 3) := by decide +kernel
theorem dX11_same_39 : decode cX11_same 39 = .ok (.invokevirtual 228, 3) := by decide +kernel
theorem dX11_same_42 : decode cX11_same 42 = .ok (.iload_n 1, 1) := by decide +kernel
theorem dX11_same_43 : decode cX11_same 43 = .ok (.ifCond .ne 13, 3) := by decide +kernel
theorem dX11_same_46 : decode cX11_same 46 = .ok (.aload_n 0, 1) := by decide +kernel
theorem dX11_same_47 : decode cX11_same 47 = .ok (.getfield 74, 3) := by decide +kernel
theorem dX11_same_50 : decode cX11_same 50 = .ok (.getfield 232, 3) := by decide +kernel
theorem dX11_same_53 : decode cX11_same 53 = .ok (.goto 10, 3) := by decide +kernel
theorem dX11_same_56 : decode cX11_same 56 = .ok (.aload_n 0, 1) := by decide +kernel
theorem dX11_same_57 : decode cX11_same 57 = .ok (.getfield 74, 3) := by decide +kernel
theorem dX11_same_60 : decode cX11_same 60 = .ok (.getfield 233, 3) := by decide +kernel
theorem dX11_same_63 : decode cX11_same 63 = .ok (.ireturn, 1) := by decide +kernel
theorem dX11_keep_0 : decode cX11_keep 0 = .ok (.iload_n 1, 1) := by decide +kernel
theorem dX11_keep_1 : decode cX11_keep 1 = .ok (.ifCond .lt 8, 3) := by decide +kernel
theorem dX11_keep_4 : decode cX11_keep 4 = .ok (.iload_n 1, 1) := by decide +kernel
theorem dX11_keep_5 : decode cX11_keep 5 = .ok (.iconst 2, 1) := by decide +kernel
theorem dX11_keep_6 : decode cX11_keep 6 = .ok (.if_icmp .lt 5, 3) := by decide +kernel
theorem dX11_keep_9 : decode cX11_keep 9 = .ok (.iconst (-1), 1) := by decide +kernel
theorem dX11_keep_10 : decode cX11_keep 10 = .ok (.ireturn, 1) := by decide +kernel
theorem dX11_keep_11 : decode cX11_keep 11 = .ok (.aload_n 0, 1) := by decide +kernel
theorem dX11_keep_12 : decode cX11_keep 12 = .ok (.getfield 35, 3) := by decide +kernel
theorem dX11_keep_15 : decode cX11_keep 15 = .ok (.iload_n 1, 1) := by decide +kernel
theorem dX11_keep_16 : decode cX11_keep 16 = .ok (.aaload, 1) := by decide +kernel
theorem dX11_keep_17 : decode cX11_keep 17 = .ok (.aload_n 0, 1) := by decide +kernel
theorem dX11_keep_18 : decode cX11_keep 18 = .ok (.getfield 24, 3) := by decide +kernel
theorem dX11_keep_21 : decode cX11_keep 21 = .ok (.invokevirtual 236, 3) := by decide +kernel
theorem dX11_keep_24 : decode cX11_keep 24 = .ok (.aload_n 0, 1) := by decide +kernel
theorem dX11_keep_25 : decode cX11_keep 25 = .ok (.getfield 39, 3) := by decide +kernel
theorem dX11_keep_28 : decode cX11_keep 28 = .ok (.iload_n 1, 1) := by decide +kernel
theorem dX11_keep_29 : decode cX11_keep 29 = .ok (.iconst 1, 1) := by decide +kernel
theorem dX11_keep_30 : decode cX11_keep 30 = .ok (.bastore, 1) := by decide +kernel
theorem dX11_keep_31 : decode cX11_keep 31 = .ok (.aload_n 0, 1) := by decide +kernel
theorem dX11_keep_32 : decode cX11_keep 32 = .ok (.getfield 24, 3) := by decide +kernel
theorem dX11_keep_35 : decode cX11_keep 35 = .ok (.getfield 114, 3) := by decide +kernel
theorem dX11_keep_38 : decode cX11_keep 38 = .ok (.getfield 131, 3) := by decide +kernel
theorem dX11_keep_41 : decode cX11_keep 41 = .ok (.ireturn, 1) := by decide +kernel
theorem dX11_back_0 : decode cX11_back 0 = .ok (.iload_n 1, 1) := by decide +kernel
theorem dX11_back_1 : decode cX11_back 1 = .ok (.ifCond .lt 8, 3) := by decide +kernel
theorem dX11_back_4 : decode cX11_back 4 = .ok (.iload_n 1, 1) := by decide +kernel
theorem dX11_back_5 : decode cX11_back 5 = .ok (.iconst 2, 1) := by decide +kernel
theorem dX11_back_6 : decode cX11_back 6 = .ok (.if_icmp .lt 5, 3) := by decide +kernel
theorem dX11_back_9 : decode cX11_back 9 = .ok (.iconst (-1), 1) := by decide +kernel
theorem dX11_back_10 : decode cX11_back 10 = .ok (.ireturn, 1) := by decide +kernel
theorem dX11_back_11 : decode cX11_back 11 = .ok (.aload_n 0, 1) := by decide +kernel
theorem dX11_back_12 : decode cX11_back 12 = .ok (.getfield 39, 3) := by decide +kernel
theorem dX11_back_15 : decode cX11_back 15 = .ok (.iload_n 1, 1) := by decide +kernel
theorem dX11_back_16 : decode cX11_back 16 = .ok (.baload, 1) := by decide +kernel
theorem dX11_back_17 : decode cX11_back 17 = .ok (.ifCond .ne 6, 3) := by decide +kernel
theorem dX11_back_20 : decode cX11_back 20 = .ok (.bipush (-2), 2) := by decide +kernel
theorem dX11_back_22 : decode cX11_back 22 = .ok (.ireturn, 1) := by decide +kernel
theorem dX11_back_23 : decode cX11_back 23 = .ok (.aload_n 0, 1) := by decide +kernel
theorem dX11_back_24 : decode cX11_back 24 = .ok (.getfield 24, 3) := by decide +kernel
theorem dX11_back_27 : decode cX11_back 27 = .ok (.aload_n 0, 1) := by decide +kernel
theorem dX11_back_28 : decode cX11_back 28 = .ok (.getfield 35, 3) := by decide +kernel
theorem dX11_back_31 : decode cX11_back 31 = .ok (.iload_n 1, 1) := by decide +kernel
theorem dX11_back_32 : decode cX11_back 32 = .ok (.aaload, 1) := by decide +kernel
theorem dX11_back_33 : decode cX11_back 33 = .ok (.invokevirtual 236, 3) := by decide +kernel
theorem dX11_back_36 : decode cX11_back 36 = .ok (.aload_n 0, 1) := by decide +kernel
theorem dX11_back_37 : decode cX11_back 37 = .ok (.getfield 31, 3) := by decide +kernel
theorem dX11_back_40 : decode cX11_back 40 = .ok (.invokevirtual 238, 3) := by decide +kernel
theorem dX11_back_43 : decode cX11_back 43 = .ok (.aload_n 0, 1) := by decide +kernel
theorem dX11_back_44 : decode cX11_back 44 = .ok (.invokevirtual 107, 3) := by decide +kernel
theorem dX11_back_47 : decode cX11_back 47 = .ok (.aload_n 0, 1) := by decide +kernel
theorem dX11_back_48 : decode cX11_back 48 = .ok (.getfield 24, 3) := by decide +kernel
theorem dX11_back_51 : decode cX11_back 51 = .ok (.getfield 114, 3) := by decide +kernel
theorem dX11_back_54 : decode cX11_back 54 = .ok (.getfield 131, 3) := by decide +kernel
theorem dX11_back_57 : decode cX11_back 57 = .ok (.ireturn, 1) := by decide +kernel
theorem dX11_count_0 : decode cX11_count 0 = .ok (.aload_n 0, 1) := by decide +kernel
theorem dX11_count_1 : decode cX11_count 1 = .ok (.getfield 24, 3) := by decide +kernel
theorem dX11_count_4 : decode cX11_count 4 = .ok (.getfield 114, 3) := by decide +kernel
theorem dX11_count_7 : decode cX11_count 7 = .ok (.getfield 131, 3) := by decide +kernel
theorem dX11_count_10 : decode cX11_count 10 = .ok (.iconst 1, 1) := by decide +kernel
theorem dX11_count_11 : decode cX11_count 11 = .ok (.isub, 1) := by decide +kernel
theorem dX11_count_12 : decode cX11_count 12 = .ok (.istore_n 2, 1) := by decide +kernel
theorem dX11_count_13 : decode cX11_count 13 = .ok (.iload_n 1, 1) := by decide +kernel
theorem dX11_count_14 : decode cX11_count 14 = .ok (.tableswitch 171 0 9 #[54, 65, 76, 84, 89, 100, 111, 133, 155, 163], 54) := by decide +kernel
theorem dX11_count_68 : decode cX11_count 68 = .ok (.aload_n 0, 1) := by decide +kernel
theorem dX11_count_69 : decode cX11_count 69 = .ok (.getfield 24, 3) := by decide +kernel
theorem dX11_count_72 : decode cX11_count 72 = .ok (.getfield 96, 3) := by decide +kernel
theorem dX11_count_75 : decode cX11_count 75 = .ok (.getfield 146, 3) := by decide +kernel
theorem dX11_count_78 : decode cX11_count 78 = .ok (.ireturn, 1) := by decide +kernel
theorem dX11_count_79 : decode cX11_count 79 = .ok (.aload_n 0, 1) := by decide +kernel
theorem dX11_count_80 : decode cX11_count 80 = .ok (.getfield 24, 3) := by decide +kernel
theorem dX11_count_83 : decode cX11_count 83 = .ok (.getfield 114, 3) := by decide +kernel
theorem dX11_count_86 : decode cX11_count 86 = .ok (.getfield 131, 3) := by decide +kernel
theorem dX11_count_89 : decode cX11_count 89 = .ok (.ireturn, 1) := by decide +kernel
theorem dX11_count_90 : decode cX11_count 90 = .ok (.aload_n 0, 1) := by decide +kernel
theorem dX11_count_91 : decode cX11_count 91 = .ok (.invokevirtual 164, 3) := by decide +kernel
theorem dX11_count_94 : decode cX11_count 94 = .ok (.getfield 187, 3) := by decide +kernel
theorem dX11_count_97 : decode cX11_count 97 = .ok (.ireturn, 1) := by decide +kernel
theorem dX11_count_98 : decode cX11_count 98 = .ok (.aload_n 0, 1) := by decide +kernel
theorem dX11_count_99 : decode cX11_count 99 = .ok (.invokevirtual 193, 3) := by decide +kernel
theorem dX11_count_102 : decode cX11_count 102 = .ok (.ireturn, 1) := by decide +kernel
theorem dX11_count_103 : decode cX11_count 103 = .ok (.aload_n 0, 1) := by decide +kernel
theorem dX11_count_104 : decode cX11_count 104 = .ok (.getfield 24, 3) := by decide +kernel
theorem dX11_count_107 : decode cX11_count 107 = .ok (.getfield 96, 3) := by decide +kernel
theorem dX11_count_110 : decode cX11_count 110 = .ok (.getfield 241, 3) := by decide +kernel
theorem dX11_count_113 : decode cX11_count 113 = .ok (.ireturn, 1) := by decide +kernel
theorem dX11_count_114 : decode cX11_count 114 = .ok (.aload_n 0, 1) := by decide +kernel
theorem dX11_count_115 : decode cX11_count 115 = .ok (.getfield 24, 3) := by decide +kernel
theorem dX11_count_118 : decode cX11_count 118 = .ok (.getfield 96, 3) := by decide +kernel
theorem dX11_count_121 : decode cX11_count 121 = .ok (.getfield 244, 3) := by decide +kernel
theorem dX11_count_124 : decode cX11_count 124 = .ok (.ireturn, 1) := by decide +kernel
theorem dX11_count_125 : decode cX11_count 125 = .ok (.aload_n 0, 1) := by decide +kernel
theorem dX11_count_126 : decode cX11_count 126 = .ok (.iload_n 2, 1) := by decide +kernel
theorem dX11_count_127 : decode cX11_count 127 = .ok (.invokevirtual 124, 3) := by decide +kernel
theorem dX11_count_130 : decode cX11_count 130 = .ok (.ifCond .eq 15, 3) := by decide +kernel
theorem dX11_count_133 : decode cX11_count 133 = .ok (.aload_n 0, 1) := by decide +kernel
theorem dX11_count_134 : decode cX11_count 134 = .ok (.getfield 46, 3) := by decide +kernel
theorem dX11_count_137 : decode cX11_count 137 = .ok (.getfield 174, 3) := by decide +kernel
theorem dX11_count_140 : decode cX11_count 140 = .ok (.iload_n 2, 1) := by decide +kernel
theorem dX11_count_141 : decode cX11_count 141 = .ok (.iaload, 1) := by decide +kernel
theorem dX11_count_142 : decode cX11_count 142 = .ok (.goto 4, 3) := by decide +kernel
theorem dX11_count_145 : decode cX11_count 145 = .ok (.iconst 0, 1) := by decide +kernel
theorem dX11_count_146 : decode cX11_count 146 = .ok (.ireturn, 1) := by decide +kernel
theorem dX11_count_147 : decode cX11_count 147 = .ok (.aload_n 0, 1) := by decide +kernel
theorem dX11_count_148 : decode cX11_count 148 = .ok (.iload_n 2, 1) := by decide +kernel
theorem dX11_count_149 : decode cX11_count 149 = .ok (.invokevirtual 124, 3) := by decide +kernel
theorem dX11_count_152 : decode cX11_count 152 = .ok (.ifCond .eq 15, 3) := by decide +kernel
theorem dX11_count_155 : decode cX11_count 155 = .ok (.aload_n 0, 1) := by decide +kernel
theorem dX11_count_156 : decode cX11_count 156 = .ok (.getfield 46, 3) := by decide +kernel
theorem dX11_count_159 : decode cX11_count 159 = .ok (.getfield 177, 3) := by decide +kernel
theorem dX11_count_162 : decode cX11_count 162 = .ok (.iload_n 2, 1) := by decide +kernel
theorem dX11_count_163 : decode cX11_count 163 = .ok (.iaload, 1) := by decide +kernel
theorem dX11_count_164 : decode cX11_count 164 = .ok (.goto 4, 3) := by decide +kernel
theorem dX11_count_167 : decode cX11_count 167 = .ok (.iconst 0, 1) := by decide +kernel
theorem dX11_count_168 : decode cX11_count 168 = .ok (.ireturn, 1) := by decide +kernel
theorem dX11_count_169 : decode cX11_count 169 = .ok (.aload_n 0, 1) := by decide +kernel
theorem dX11_count_170 : decode cX11_count 170 = .ok (.getfield 20, 3) := by decide +kernel
theorem dX11_count_173 : decode cX11_count 173 = .ok (.getfield 78, 3) := by decide +kernel
theorem dX11_count_176 : decode cX11_count 176 = .ok (.ireturn, 1) := by decide +kernel
theorem dX11_count_177 : decode cX11_count 177 = .ok (.aload_n 0, 1) := by decide +kernel
theorem dX11_count_178 : decode cX11_count 178 = .ok (.getfield 31, 3) := by decide +kernel
theorem dX11_count_181 : decode cX11_count 181 = .ok (.getfield 142, 3) := by decide +kernel
theorem dX11_count_184 : decode cX11_count 184 = .ok (.ireturn, 1) := by decide +kernel
theorem dX11_count_185 : decode cX11_count 185 = .ok (.iconst (-1), 1) := by decide +kernel
theorem dX11_count_186 : decode cX11_count 186 = .ok (.ireturn, 1) := by decide +kernel
theorem dX11_isSign_0 : decode cX11_isSign 0 = .ok (.iload_n 0, 1) := by decide +kernel
theorem dX11_isSign_1 : decode cX11_isSign 1 = .ok (.ifCond .lt 12, 3) := by decide +kernel
theorem dX11_isSign_4 : decode cX11_isSign 4 = .ok (.iload_n 0, 1) := by decide +kernel
theorem dX11_isSign_5 : decode cX11_isSign 5 = .ok (.iconst 5, 1) := by decide +kernel
theorem dX11_isSign_6 : decode cX11_isSign 6 = .ok (.if_icmp .ge 7, 3) := by decide +kernel
theorem dX11_isSign_9 : decode cX11_isSign 9 = .ok (.iconst 1, 1) := by decide +kernel
theorem dX11_isSign_10 : decode cX11_isSign 10 = .ok (.goto 4, 3) := by decide +kernel
theorem dX11_isSign_13 : decode cX11_isSign 13 = .ok (.iconst 0, 1) := by decide +kernel
theorem dX11_isSign_14 : decode cX11_isSign 14 = .ok (.ireturn, 1) := by decide +kernel
theorem dX11_isPast_0 : decode cX11_isPast 0 = .ok (.iload_n 0, 1) := by decide +kernel
theorem dX11_isPast_1 : decode cX11_isPast 1 = .ok (.ifCond .lt 13, 3) := by decide +kernel
theorem dX11_isPast_4 : decode cX11_isPast 4 = .ok (.iload_n 0, 1) := by decide +kernel
theorem dX11_isPast_5 : decode cX11_isPast 5 = .ok (.bipush 64, 2) := by decide +kernel
theorem dX11_isPast_7 : decode cX11_isPast 7 = .ok (.if_icmp .ge 7, 3) := by decide +kernel
theorem dX11_isPast_10 : decode cX11_isPast 10 = .ok (.iconst 1, 1) := by decide +kernel
theorem dX11_isPast_11 : decode cX11_isPast 11 = .ok (.goto 4, 3) := by decide +kernel
theorem dX11_isPast_14 : decode cX11_isPast 14 = .ok (.iconst 0, 1) := by decide +kernel
theorem dX11_isPast_15 : decode cX11_isPast 15 = .ok (.ireturn, 1) := by decide +kernel
theorem dX11_isRow_0 : decode cX11_isRow 0 = .ok (.iload_n 1, 1) := by decide +kernel
theorem dX11_isRow_1 : decode cX11_isRow 1 = .ok (.ifCond .lt 27, 3) := by decide +kernel
theorem dX11_isRow_4 : decode cX11_isRow 4 = .ok (.iload_n 1, 1) := by decide +kernel
theorem dX11_isRow_5 : decode cX11_isRow 5 = .ok (.aload_n 0, 1) := by decide +kernel
theorem dX11_isRow_6 : decode cX11_isRow 6 = .ok (.getfield 24, 3) := by decide +kernel
theorem dX11_isRow_9 : decode cX11_isRow 9 = .ok (.getfield 114, 3) := by decide +kernel
theorem dX11_isRow_12 : decode cX11_isRow 12 = .ok (.getfield 131, 3) := by decide +kernel
theorem dX11_isRow_15 : decode cX11_isRow 15 = .ok (.if_icmp .ge 13, 3) := by decide +kernel
theorem dX11_isRow_18 : decode cX11_isRow 18 = .ok (.iload_n 1, 1) := by decide +kernel
theorem dX11_isRow_19 : decode cX11_isRow 19 = .ok (.bipush 40, 2) := by decide +kernel
theorem dX11_isRow_21 : decode cX11_isRow 21 = .ok (.if_icmp .ge 7, 3) := by decide +kernel
theorem dX11_isRow_24 : decode cX11_isRow 24 = .ok (.iconst 1, 1) := by decide +kernel
theorem dX11_isRow_25 : decode cX11_isRow 25 = .ok (.goto 4, 3) := by decide +kernel
theorem dX11_isRow_28 : decode cX11_isRow 28 = .ok (.iconst 0, 1) := by decide +kernel
theorem dX11_isRow_29 : decode cX11_isRow 29 = .ok (.ireturn, 1) := by decide +kernel
theorem dX11_goThrough_0 : decode cX11_goThrough 0 = .ok (.aload_n 0, 1) := by decide +kernel
theorem dX11_goThrough_1 : decode cX11_goThrough 1 = .ok (.getfield 46, 3) := by decide +kernel
theorem dX11_goThrough_4 : decode cX11_goThrough 4 = .ok (.aload_n 0, 1) := by decide +kernel
theorem dX11_goThrough_5 : decode cX11_goThrough 5 = .ok (.getfield 24, 3) := by decide +kernel
theorem dX11_goThrough_8 : decode cX11_goThrough 8 = .ok (.invokevirtual 247, 3) := by decide +kernel
theorem dX11_goThrough_11 : decode cX11_goThrough 11 = .ok (.aload_n 0, 1) := by decide +kernel
theorem dX11_goThrough_12 : decode cX11_goThrough 12 = .ok (.getfield 74, 3) := by decide +kernel
theorem dX11_goThrough_15 : decode cX11_goThrough 15 = .ok (.iconst 0, 1) := by decide +kernel
theorem dX11_goThrough_16 : decode cX11_goThrough 16 = .ok (.putfield 227, 3) := by decide +kernel
theorem dX11_goThrough_19 : decode cX11_goThrough 19 = .ok (.return_, 1) := by decide +kernel
theorem dX11_fitted_0 : decode cX11_fitted 0 = .ok (.aload_n 0, 1) := by decide +kernel
theorem dX11_fitted_1 : decode cX11_fitted 1 = .ok (.getfield 53, 3) := by decide +kernel
theorem dX11_fitted_4 : decode cX11_fitted 4 = .ok (.aload_n 0, 1) := by decide +kernel
theorem dX11_fitted_5 : decode cX11_fitted 5 = .ok (.getfield 24, 3) := by decide +kernel
theorem dX11_fitted_8 : decode cX11_fitted 8 = .ok (.getfield 96, 3) := by decide +kernel
theorem dX11_fitted_11 : decode cX11_fitted 11 = .ok (.invokevirtual 250, 3) := by decide +kernel
theorem dX11_fitted_14 : decode cX11_fitted 14 = .ok (.aload_n 0, 1) := by decide +kernel
theorem dX11_fitted_15 : decode cX11_fitted 15 = .ok (.getfield 53, 3) := by decide +kernel
theorem dX11_fitted_18 : decode cX11_fitted 18 = .ok (.areturn, 1) := by decide +kernel
theorem dX11_stateNow_0 : decode cX11_stateNow 0 = .ok (.aload_n 0, 1) := by decide +kernel
theorem dX11_stateNow_1 : decode cX11_stateNow 1 = .ok (.getfield 24, 3) := by decide +kernel
theorem dX11_stateNow_4 : decode cX11_stateNow 4 = .ok (.getfield 114, 3) := by decide +kernel
theorem dX11_stateNow_7 : decode cX11_stateNow 7 = .ok (.getfield 131, 3) := by decide +kernel
theorem dX11_stateNow_10 : decode cX11_stateNow 10 = .ok (.iconst 1, 1) := by decide +kernel
theorem dX11_stateNow_11 : decode cX11_stateNow 11 = .ok (.isub, 1) := by decide +kernel
theorem dX11_stateNow_12 : decode cX11_stateNow 12 = .ok (.istore_n 1, 1) := by decide +kernel
theorem dX11_stateNow_13 : decode cX11_stateNow 13 = .ok (.aload_n 0, 1) := by decide +kernel
theorem dX11_stateNow_14 : decode cX11_stateNow 14 = .ok (.iload_n 1, 1) := by decide +kernel
theorem dX11_stateNow_15 : decode cX11_stateNow 15 = .ok (.invokevirtual 124, 3) := by decide +kernel
theorem dX11_stateNow_18 : decode cX11_stateNow 18 = .ok (.ifCond .eq 15, 3) := by decide +kernel
theorem dX11_stateNow_21 : decode cX11_stateNow 21 = .ok (.aload_n 0, 1) := by decide +kernel
theorem dX11_stateNow_22 : decode cX11_stateNow 22 = .ok (.getfield 46, 3) := by decide +kernel
theorem dX11_stateNow_25 : decode cX11_stateNow 25 = .ok (.getfield 168, 3) := by decide +kernel
theorem dX11_stateNow_28 : decode cX11_stateNow 28 = .ok (.iload_n 1, 1) := by decide +kernel
theorem dX11_stateNow_29 : decode cX11_stateNow 29 = .ok (.iaload, 1) := by decide +kernel
theorem dX11_stateNow_30 : decode cX11_stateNow 30 = .ok (.goto 4, 3) := by decide +kernel
theorem dX11_stateNow_33 : decode cX11_stateNow 33 = .ok (.iconst 0, 1) := by decide +kernel
theorem dX11_stateNow_34 : decode cX11_stateNow 34 = .ok (.istore_n 2, 1) := by decide +kernel
theorem dX11_stateNow_35 : decode cX11_stateNow 35 = .ok (.aload_n 0, 1) := by decide +kernel
theorem dX11_stateNow_36 : decode cX11_stateNow 36 = .ok (.getfield 53, 3) := by decide +kernel
theorem dX11_stateNow_39 : decode cX11_stateNow 39 = .ok (.aload_n 0, 1) := by decide +kernel
theorem dX11_stateNow_40 : decode cX11_stateNow 40 = .ok (.getfield 24, 3) := by decide +kernel
theorem dX11_stateNow_43 : decode cX11_stateNow 43 = .ok (.getfield 96, 3) := by decide +kernel
theorem dX11_stateNow_46 : decode cX11_stateNow 46 = .ok (.invokevirtual 250, 3) := by decide +kernel
theorem dX11_stateNow_49 : decode cX11_stateNow 49 = .ok (.aload_n 0, 1) := by decide +kernel
theorem dX11_stateNow_50 : decode cX11_stateNow 50 = .ok (.getfield 53, 3) := by decide +kernel
theorem dX11_stateNow_53 : decode cX11_stateNow 53 = .ok (.iload_n 2, 1) := by decide +kernel
theorem dX11_stateNow_54 : decode cX11_stateNow 54 = .ok (.invokevirtual 171, 3) := by decide +kernel
theorem dX11_stateNow_57 : decode cX11_stateNow 57 = .ok (.ireturn, 1) := by decide +kernel
theorem dX11_timeOfMark_0 : decode cX11_timeOfMark 0 = .ok (.iload_n 2, 1) := by decide +kernel
theorem dX11_timeOfMark_1 : decode cX11_timeOfMark 1 = .ok (.iconst (-1), 1) := by decide +kernel
theorem dX11_timeOfMark_2 : decode cX11_timeOfMark 2 = .ok (.if_icmp .ge 5, 3) := by decide +kernel
theorem dX11_timeOfMark_5 : decode cX11_timeOfMark 5 = .ok (.iconst (-1), 1) := by decide +kernel
theorem dX11_timeOfMark_6 : decode cX11_timeOfMark 6 = .ok (.ireturn, 1) := by decide +kernel
theorem dX11_timeOfMark_7 : decode cX11_timeOfMark 7 = .ok (.iconst 0, 1) := by decide +kernel
theorem dX11_timeOfMark_8 : decode cX11_timeOfMark 8 = .ok (.istore_n 3, 1) := by decide +kernel
theorem dX11_timeOfMark_9 : decode cX11_timeOfMark 9 = .ok (.iconst 0, 1) := by decide +kernel
theorem dX11_timeOfMark_10 : decode cX11_timeOfMark 10 = .ok (.istore 4, 2) := by decide +kernel
theorem dX11_timeOfMark_12 : decode cX11_timeOfMark 12 = .ok (.iload 4, 2) := by decide +kernel
theorem dX11_timeOfMark_14 : decode cX11_timeOfMark 14 = .ok (.aload_n 0, 1) := by decide +kernel
theorem dX11_timeOfMark_15 : decode cX11_timeOfMark 15 = .ok (.getfield 24, 3) := by decide +kernel
theorem dX11_timeOfMark_18 : decode cX11_timeOfMark 18 = .ok (.getfield 114, 3) := by decide +kernel
theorem dX11_timeOfMark_21 : decode cX11_timeOfMark 21 = .ok (.getfield 131, 3) := by decide +kernel
theorem dX11_timeOfMark_24 : decode cX11_timeOfMark 24 = .ok (.if_icmp .ge 48, 3) := by decide +kernel
theorem dX11_timeOfMark_27 : decode cX11_timeOfMark 27 = .ok (.iload 4, 2) := by decide +kernel
theorem dX11_timeOfMark_29 : decode cX11_timeOfMark 29 = .ok (.bipush 40, 2) := by decide +kernel
theorem dX11_timeOfMark_31 : decode cX11_timeOfMark 31 = .ok (.if_icmp .ge 41, 3) := by decide +kernel
theorem dX11_timeOfMark_34 : decode cX11_timeOfMark 34 = .ok (.aload_n 1, 1) := by decide +kernel
theorem dX11_timeOfMark_35 : decode cX11_timeOfMark 35 = .ok (.iload 4, 2) := by decide +kernel
theorem dX11_timeOfMark_37 : decode cX11_timeOfMark 37 = .ok (.iaload, 1) := by decide +kernel
theorem dX11_timeOfMark_38 : decode cX11_timeOfMark 38 = .ok (.ifCond .ne 6, 3) := by decide +kernel
theorem dX11_timeOfMark_41 : decode cX11_timeOfMark 41 = .ok (.goto 25, 3) := by decide +kernel
theorem dX11_timeOfMark_44 : decode cX11_timeOfMark 44 = .ok (.iload_n 3, 1) := by decide +kernel
theorem dX11_timeOfMark_45 : decode cX11_timeOfMark 45 = .ok (.iload_n 2, 1) := by decide +kernel
theorem dX11_timeOfMark_46 : decode cX11_timeOfMark 46 = .ok (.if_icmp .ne 17, 3) := by decide +kernel
theorem dX11_timeOfMark_49 : decode cX11_timeOfMark 49 = .ok (.aload_n 0, 1) := by decide +kernel
theorem dX11_timeOfMark_50 : decode cX11_timeOfMark 50 = .ok (.getfield 24, 3) := by decide +kernel
theorem dX11_timeOfMark_53 : decode cX11_timeOfMark 53 = .ok (.getfield 114, 3) := by decide +kernel
theorem dX11_timeOfMark_56 : decode cX11_timeOfMark 56 = .ok (.getfield 127, 3) := by decide +kernel
theorem dX11_timeOfMark_59 : decode cX11_timeOfMark 59 = .ok (.iload 4, 2) := by decide +kernel
theorem dX11_timeOfMark_61 : decode cX11_timeOfMark 61 = .ok (.iaload, 1) := by decide +kernel
theorem dX11_timeOfMark_62 : decode cX11_timeOfMark 62 = .ok (.ireturn, 1) := by decide +kernel
theorem dX11_timeOfMark_63 : decode cX11_timeOfMark 63 = .ok (.iinc 3 1, 3) := by decide +kernel
theorem dX11_timeOfMark_66 : decode cX11_timeOfMark 66 = .ok (.iinc 4 1, 3) := by decide +kernel
theorem dX11_timeOfMark_69 : decode cX11_timeOfMark 69 = .ok (.goto (-57), 3) := by decide +kernel
theorem dX11_timeOfMark_72 : decode cX11_timeOfMark 72 = .ok (.iload_n 2, 1) := by decide +kernel
theorem dX11_timeOfMark_73 : decode cX11_timeOfMark 73 = .ok (.iconst (-1), 1) := by decide +kernel
theorem dX11_timeOfMark_74 : decode cX11_timeOfMark 74 = .ok (.if_icmp .ne 7, 3) := by decide +kernel
theorem dX11_timeOfMark_77 : decode cX11_timeOfMark 77 = .ok (.iload_n 3, 1) := by decide +kernel
theorem dX11_timeOfMark_78 : decode cX11_timeOfMark 78 = .ok (.goto 5, 3) := by decide +kernel
theorem dX11_timeOfMark_81 : decode cX11_timeOfMark 81 = .ok (.bipush (-9), 2) := by decide +kernel
theorem dX11_timeOfMark_83 : decode cX11_timeOfMark 83 = .ok (.ireturn, 1) := by decide +kernel
theorem dX12_init_0 : decode cX12_init 0 = .ok (.aload_n 0, 1) := by decide +kernel
theorem dX12_init_1 : decode cX12_init 1 = .ok (.invokespecial 1, 3) := by decide +kernel
theorem dX12_init_4 : decode cX12_init 4 = .ok (.aload_n 0, 1) := by decide +kernel
theorem dX12_init_5 : decode cX12_init 5 = .ok (.bipush 98, 2) := by decide +kernel
theorem dX12_init_7 : decode cX12_init 7 = .ok (.newarray .int, 2) := by decide +kernel
theorem dX12_init_9 : decode cX12_init 9 = .ok (.putfield 7, 3) := by decide +kernel
theorem dX12_init_12 : decode cX12_init 12 = .ok (.aload_n 0, 1) := by decide +kernel
theorem dX12_init_13 : decode cX12_init 13 = .ok (.bipush 98, 2) := by decide +kernel
theorem dX12_init_15 : decode cX12_init 15 = .ok (.newarray .int, 2) := by decide +kernel
theorem dX12_init_17 : decode cX12_init 17 = .ok (.putfield 13, 3) := by decide +kernel
theorem dX12_init_20 : decode cX12_init 20 = .ok (.aload_n 0, 1) := by decide +kernel
theorem dX12_init_21 : decode cX12_init 21 = .ok (.sipush 588, 3) := by decide +kernel
theorem dX12_init_24 : decode cX12_init 24 = .ok (.newarray .int, 2) := by decide +kernel
theorem dX12_init_26 : decode cX12_init 26 = .ok (.putfield 16, 3) := by decide +kernel
theorem dX12_init_29 : decode cX12_init 29 = .ok (.aload_n 0, 1) := by decide +kernel
theorem dX12_init_30 : decode cX12_init 30 = .ok (.sipush 196, 3) := by decide +kernel
theorem dX12_init_33 : decode cX12_init 33 = .ok (.newarray .int, 2) := by decide +kernel
theorem dX12_init_35 : decode cX12_init 35 = .ok (.putfield 19, 3) := by decide +kernel
theorem dX12_init_38 : decode cX12_init 38 = .ok (.aload_n 0, 1) := by decide +kernel
theorem dX12_init_39 : decode cX12_init 39 = .ok (.iconst 2, 1) := by decide +kernel
theorem dX12_init_40 : decode cX12_init 40 = .ok (.newarray .boolean, 2) := by decide +kernel
theorem dX12_init_42 : decode cX12_init 42 = .ok (.putfield 22, 3) := by decide +kernel
theorem dX12_init_45 : decode cX12_init 45 = .ok (.aload_n 0, 1) := by decide +kernel
theorem dX12_init_46 : decode cX12_init 46 = .ok (.bipush 120, 2) := by decide +kernel
theorem dX12_init_48 : decode cX12_init 48 = .ok (.newarray .int, 2) := by decide +kernel
theorem dX12_init_50 : decode cX12_init 50 = .ok (.putfield 26, 3) := by decide +kernel
theorem dX12_init_53 : decode cX12_init 53 = .ok (.aload_n 0, 1) := by decide +kernel
theorem dX12_init_54 : decode cX12_init 54 = .ok (.bipush 40, 2) := by decide +kernel
theorem dX12_init_56 : decode cX12_init 56 = .ok (.newarray .int, 2) := by decide +kernel
theorem dX12_init_58 : decode cX12_init 58 = .ok (.putfield 29, 3) := by decide +kernel
theorem dX12_init_61 : decode cX12_init 61 = .ok (.aload_n 0, 1) := by decide +kernel
theorem dX12_init_62 : decode cX12_init 62 = .ok (.bipush 40, 2) := by decide +kernel
theorem dX12_init_64 : decode cX12_init 64 = .ok (.newarray .int, 2) := by decide +kernel
theorem dX12_init_66 : decode cX12_init 66 = .ok (.putfield 32, 3) := by decide +kernel
theorem dX12_init_69 : decode cX12_init 69 = .ok (.aload_n 0, 1) := by decide +kernel
theorem dX12_init_70 : decode cX12_init 70 = .ok (.bipush 40, 2) := by decide +kernel
theorem dX12_init_72 : decode cX12_init 72 = .ok (.newarray .int, 2) := by decide +kernel
theorem dX12_init_74 : decode cX12_init 74 = .ok (.putfield 35, 3) := by decide +kernel
theorem dX12_init_77 : decode cX12_init 77 = .ok (.aload_n 0, 1) := by decide +kernel
theorem dX12_init_78 : decode cX12_init 78 = .ok (.bipush 40, 2) := by decide +kernel
theorem dX12_init_80 : decode cX12_init 80 = .ok (.newarray .int, 2) := by decide +kernel
theorem dX12_init_82 : decode cX12_init 82 = .ok (.putfield 38, 3) := by decide +kernel
theorem dX12_init_85 : decode cX12_init 85 = .ok (.aload_n 0, 1) := by decide +kernel
theorem dX12_init_86 : decode cX12_init 86 = .ok (.bipush 40, 2) := by decide +kernel
theorem dX12_init_88 : decode cX12_init 88 = .ok (.newarray .boolean, 2) := by decide +kernel
theorem dX12_init_90 : decode cX12_init 90 = .ok (.putfield 41, 3) := by decide +kernel
theorem dX12_init_93 : decode cX12_init 93 = .ok (.aload_n 0, 1) := by decide +kernel
theorem dX12_init_94 : decode cX12_init 94 = .ok (.bipush 64, 2) := by decide +kernel
theorem dX12_init_96 : decode cX12_init 96 = .ok (.newarray .int, 2) := by decide +kernel
theorem dX12_init_98 : decode cX12_init 98 = .ok (.putfield 44, 3) := by decide +kernel
theorem dX12_init_101 : decode cX12_init 101 = .ok (.aload_n 0, 1) := by decide +kernel
theorem dX12_init_102 : decode cX12_init 102 = .ok (.bipush 64, 2) := by decide +kernel
theorem dX12_init_104 : decode cX12_init 104 = .ok (.newarray .int, 2) := by decide +kernel
theorem dX12_init_106 : decode cX12_init 106 = .ok (.putfield 47, 3) := by decide +kernel
theorem dX12_init_109 : decode cX12_init 109 = .ok (.aload_n 0, 1) := by decide +kernel
theorem dX12_init_110 : decode cX12_init 110 = .ok (.sipush 320, 3) := by decide +kernel
theorem dX12_init_113 : decode cX12_init 113 = .ok (.newarray .int, 2) := by decide +kernel
theorem dX12_init_115 : decode cX12_init 115 = .ok (.putfield 50, 3) := by decide +kernel
theorem dX12_init_118 : decode cX12_init 118 = .ok (.aload_n 0, 1) := by decide +kernel
theorem dX12_init_119 : decode cX12_init 119 = .ok (.bipush 64, 2) := by decide +kernel
theorem dX12_init_121 : decode cX12_init 121 = .ok (.newarray .int, 2) := by decide +kernel
theorem dX12_init_123 : decode cX12_init 123 = .ok (.putfield 53, 3) := by decide +kernel
theorem dX12_init_126 : decode cX12_init 126 = .ok (.aload_n 0, 1) := by decide +kernel
theorem dX12_init_127 : decode cX12_init 127 = .ok (.bipush 64, 2) := by decide +kernel
theorem dX12_init_129 : decode cX12_init 129 = .ok (.newarray .int, 2) := by decide +kernel
theorem dX12_init_131 : decode cX12_init 131 = .ok (.putfield 56, 3) := by decide +kernel
theorem dX12_init_134 : decode cX12_init 134 = .ok (.aload_n 0, 1) := by decide +kernel
theorem dX12_init_135 : decode cX12_init 135 = .ok (.bipush 64, 2) := by decide +kernel
theorem dX12_init_137 : decode cX12_init 137 = .ok (.newarray .int, 2) := by decide +kernel
theorem dX12_init_139 : decode cX12_init 139 = .ok (.putfield 59, 3) := by decide +kernel
theorem dX12_init_142 : decode cX12_init 142 = .ok (.aload_n 0, 1) := by decide +kernel
theorem dX12_init_143 : decode cX12_init 143 = .ok (.bipush 64, 2) := by decide +kernel
theorem dX12_init_145 : decode cX12_init 145 = .ok (.newarray .int, 2) := by decide +kernel
theorem dX12_init_147 : decode cX12_init 147 = .ok (.putfield 62, 3) := by decide +kernel
theorem dX12_init_150 : decode cX12_init 150 = .ok (.aload_n 0, 1) := by decide +kernel
theorem dX12_init_151 : decode cX12_init 151 = .ok (.sipush 320, 3) := by decide +kernel
theorem dX12_init_154 : decode cX12_init 154 = .ok (.newarray .int, 2) := by decide +kernel
theorem dX12_init_156 : decode cX12_init 156 = .ok (.putfield 65, 3) := by decide +kernel
theorem dX12_init_159 : decode cX12_init 159 = .ok (.aload_n 0, 1) := by decide +kernel
theorem dX12_init_160 : decode cX12_init 160 = .ok (.bipush 64, 2) := by decide +kernel
theorem dX12_init_162 : decode cX12_init 162 = .ok (.newarray .int, 2) := by decide +kernel
theorem dX12_init_164 : decode cX12_init 164 = .ok (.putfield 68, 3) := by decide +kernel
theorem dX12_init_167 : decode cX12_init 167 = .ok (.aload_n 0, 1) := by decide +kernel
theorem dX12_init_168 : decode cX12_init 168 = .ok (.bipush 64, 2) := by decide +kernel
theorem dX12_init_170 : decode cX12_init 170 = .ok (.newarray .long, 2) := by decide +kernel
theorem dX12_init_172 : decode cX12_init 172 = .ok (.putfield 71, 3) := by decide +kernel
theorem dX12_init_175 : decode cX12_init 175 = .ok (.aload_n 0, 1) := by decide +kernel
theorem dX12_init_176 : decode cX12_init 176 = .ok (.bipush 64, 2) := by decide +kernel
theorem dX12_init_178 : decode cX12_init 178 = .ok (.newarray .long, 2) := by decide +kernel
theorem dX12_init_180 : decode cX12_init 180 = .ok (.putfield 75, 3) := by decide +kernel
theorem dX12_init_183 : decode cX12_init 183 = .ok (.aload_n 0, 1) := by decide +kernel
theorem dX12_init_184 : decode cX12_init 184 = .ok (.sipush 4160, 3) := by decide +kernel
theorem dX12_init_187 : decode cX12_init 187 = .ok (.newarray .long, 2) := by decide +kernel
theorem dX12_init_189 : decode cX12_init 189 = .ok (.putfield 78, 3) := by decide +kernel
theorem dX12_init_192 : decode cX12_init 192 = .ok (.aload_n 0, 1) := by decide +kernel
theorem dX12_init_193 : decode cX12_init 193 = .ok (.invokevirtual 81, 3) := by decide +kernel
theorem dX12_init_196 : decode cX12_init 196 = .ok (.aload_n 0, 1) := by decide +kernel
theorem dX12_init_197 : decode cX12_init 197 = .ok (.invokevirtual 84, 3) := by decide +kernel
theorem dX12_init_200 : decode cX12_init 200 = .ok (.return_, 1) := by decide +kernel
theorem dX12_in_0 : decode cX12_in 0 = .ok (.iload_n 0, 1) := by decide +kernel
theorem dX12_in_1 : decode cX12_in 1 = .ok (.iload_n 1, 1) := by decide +kernel
theorem dX12_in_2 : decode cX12_in 2 = .ok (.if_icmp .lt 12, 3) := by decide +kernel
theorem dX12_in_5 : decode cX12_in 5 = .ok (.iload_n 0, 1) := by decide +kernel
theorem dX12_in_6 : decode cX12_in 6 = .ok (.iload_n 2, 1) := by decide +kernel
theorem dX12_in_7 : decode cX12_in 7 = .ok (.if_icmp .gt 7, 3) := by decide +kernel
theorem dX12_in_10 : decode cX12_in 10 = .ok (.iconst 1, 1) := by decide +kernel
theorem dX12_in_11 : decode cX12_in 11 = .ok (.goto 4, 3) := by decide +kernel
theorem dX12_in_14 : decode cX12_in 14 = .ok (.iconst 0, 1) := by decide +kernel
theorem dX12_in_15 : decode cX12_in 15 = .ok (.ireturn, 1) := by decide +kernel
theorem dX12_begin_0 : decode cX12_begin 0 = .ok (.iconst 0, 1) := by decide +kernel
theorem dX12_begin_1 : decode cX12_begin 1 = .ok (.istore_n 1, 1) := by decide +kernel
theorem dX12_begin_2 : decode cX12_begin 2 = .ok (.iload_n 1, 1) := by decide +kernel
theorem dX12_begin_3 : decode cX12_begin 3 = .ok (.bipush 17, 2) := by decide +kernel
theorem dX12_begin_5 : decode cX12_begin 5 = .ok (.if_icmp .ge 16, 3) := by decide +kernel
theorem dX12_begin_8 : decode cX12_begin 8 = .ok (.aload_n 0, 1) := by decide +kernel
theorem dX12_begin_9 : decode cX12_begin 9 = .ok (.getfield 13, 3) := by decide +kernel
theorem dX12_begin_12 : decode cX12_begin 12 = .ok (.iload_n 1, 1) := by decide +kernel
theorem dX12_begin_13 : decode cX12_begin 13 = .ok (.iconst 0, 1) := by decide +kernel
theorem dX12_begin_14 : decode cX12_begin 14 = .ok (.iastore, 1) := by decide +kernel
theorem dX12_begin_15 : decode cX12_begin 15 = .ok (.iinc 1 1, 3) := by decide +kernel
theorem dX12_begin_18 : decode cX12_begin 18 = .ok (.goto (-16), 3) := by decide +kernel
theorem dX12_begin_21 : decode cX12_begin 21 = .ok (.aload_n 0, 1) := by decide +kernel
theorem dX12_begin_22 : decode cX12_begin 22 = .ok (.getfield 13, 3) := by decide +kernel
theorem dX12_begin_25 : decode cX12_begin 25 = .ok (.bipush 10, 2) := by decide +kernel
theorem dX12_begin_27 : decode cX12_begin 27 = .ok (.iconst 1, 1) := by decide +kernel
theorem dX12_begin_28 : decode cX12_begin 28 = .ok (.iastore, 1) := by decide +kernel
theorem dX12_begin_29 : decode cX12_begin 29 = .ok (.aload_n 0, 1) := by decide +kernel
theorem dX12_begin_30 : decode cX12_begin 30 = .ok (.getfield 13, 3) := by decide +kernel
theorem dX12_begin_33 : decode cX12_begin 33 = .ok (.bipush 11, 2) := by decide +kernel
theorem dX12_begin_35 : decode cX12_begin 35 = .ok (.iconst 2, 1) := by decide +kernel
theorem dX12_begin_36 : decode cX12_begin 36 = .ok (.iastore, 1) := by decide +kernel
theorem dX12_begin_37 : decode cX12_begin 37 = .ok (.aload_n 0, 1) := by decide +kernel
theorem dX12_begin_38 : decode cX12_begin 38 = .ok (.getfield 13, 3) := by decide +kernel
theorem dX12_begin_41 : decode cX12_begin 41 = .ok (.bipush 12, 2) := by decide +kernel
theorem dX12_begin_43 : decode cX12_begin 43 = .ok (.iconst 4, 1) := by decide +kernel
theorem dX12_begin_44 : decode cX12_begin 44 = .ok (.iastore, 1) := by decide +kernel
theorem dX12_begin_45 : decode cX12_begin 45 = .ok (.aload_n 0, 1) := by decide +kernel
theorem dX12_begin_46 : decode cX12_begin 46 = .ok (.getfield 13, 3) := by decide +kernel
theorem dX12_begin_49 : decode cX12_begin 49 = .ok (.bipush 13, 2) := by decide +kernel
theorem dX12_begin_51 : decode cX12_begin 51 = .ok (.iconst 2, 1) := by decide +kernel
theorem dX12_begin_52 : decode cX12_begin 52 = .ok (.iastore, 1) := by decide +kernel
theorem dX12_begin_53 : decode cX12_begin 53 = .ok (.aload_n 0, 1) := by decide +kernel
theorem dX12_begin_54 : decode cX12_begin 54 = .ok (.getfield 13, 3) := by decide +kernel
theorem dX12_begin_57 : decode cX12_begin 57 = .ok (.bipush 14, 2) := by decide +kernel
theorem dX12_begin_59 : decode cX12_begin 59 = .ok (.iconst 1, 1) := by decide +kernel
theorem dX12_begin_60 : decode cX12_begin 60 = .ok (.iastore, 1) := by decide +kernel
theorem dX12_begin_61 : decode cX12_begin 61 = .ok (.aload_n 0, 1) := by decide +kernel
theorem dX12_begin_62 : decode cX12_begin 62 = .ok (.getfield 13, 3) := by decide +kernel
theorem dX12_begin_65 : decode cX12_begin 65 = .ok (.bipush 15, 2) := by decide +kernel
theorem dX12_begin_67 : decode cX12_begin 67 = .ok (.iconst 1, 1) := by decide +kernel
theorem dX12_begin_68 : decode cX12_begin 68 = .ok (.iastore, 1) := by decide +kernel
theorem dX12_begin_69 : decode cX12_begin 69 = .ok (.aload_n 0, 1) := by decide +kernel
theorem dX12_begin_70 : decode cX12_begin 70 = .ok (.getfield 13, 3) := by decide +kernel
theorem dX12_begin_73 : decode cX12_begin 73 = .ok (.bipush 16, 2) := by decide +kernel
theorem dX12_begin_75 : decode cX12_begin 75 = .ok (.iconst 4, 1) := by decide +kernel
theorem dX12_begin_76 : decode cX12_begin 76 = .ok (.iastore, 1) := by decide +kernel
theorem dX12_begin_77 : decode cX12_begin 77 = .ok (.return_, 1) := by decide +kernel
theorem dX12_takeRead_0 : decode cX12_takeRead 0 = .ok (.iconst 0, 1) := by decide +kernel
theorem dX12_takeRead_1 : decode cX12_takeRead 1 = .ok (.istore_n 1, 1) := by decide +kernel
theorem dX12_takeRead_2 : decode cX12_takeRead 2 = .ok (.iload_n 1, 1) := by decide +kernel
theorem dX12_takeRead_3 : decode cX12_takeRead 3 = .ok (.bipush 17, 2) := by decide +kernel
theorem dX12_takeRead_5 : decode cX12_takeRead 5 = .ok (.if_icmp .ge 21, 3) := by decide +kernel
theorem dX12_takeRead_8 : decode cX12_takeRead 8 = .ok (.aload_n 0, 1) := by decide +kernel
theorem dX12_takeRead_9 : decode cX12_takeRead 9 = .ok (.getfield 7, 3) := by decide +kernel
theorem dX12_takeRead_12 : decode cX12_takeRead 12 = .ok (.iload_n 1, 1) := by decide +kernel
theorem dX12_takeRead_13 : decode cX12_takeRead 13 = .ok (.aload_n 0, 1) := by decide +kernel
theorem dX12_takeRead_14 : decode cX12_takeRead 14 = .ok (.getfield 13, 3) := by decide +kernel
theorem dX12_takeRead_17 : decode cX12_takeRead 17 = .ok (.iload_n 1, 1) := by decide +kernel
theorem dX12_takeRead_18 : decode cX12_takeRead 18 = .ok (.iaload, 1) := by decide +kernel
theorem dX12_takeRead_19 : decode cX12_takeRead 19 = .ok (.iastore, 1) := by decide +kernel
theorem dX12_takeRead_20 : decode cX12_takeRead 20 = .ok (.iinc 1 1, 3) := by decide +kernel
theorem dX12_takeRead_23 : decode cX12_takeRead 23 = .ok (.goto (-21), 3) := by decide +kernel
theorem dX12_takeRead_26 : decode cX12_takeRead 26 = .ok (.return_, 1) := by decide +kernel
theorem dX12_isLetter_0 : decode cX12_isLetter 0 = .ok (.iload_n 0, 1) := by decide +kernel
theorem dX12_isLetter_1 : decode cX12_isLetter 1 = .ok (.bipush 97, 2) := by decide +kernel
theorem dX12_isLetter_3 : decode cX12_isLetter 3 = .ok (.bipush 122, 2) := by decide +kernel
theorem dX12_isLetter_5 : decode cX12_isLetter 5 = .ok (.invokestatic 87, 3) := by decide +kernel
theorem dX12_isLetter_8 : decode cX12_isLetter 8 = .ok (.ireturn, 1) := by decide +kernel
theorem dX12_isFigure_0 : decode cX12_isFigure 0 = .ok (.iload_n 0, 1) := by decide +kernel
theorem dX12_isFigure_1 : decode cX12_isFigure 1 = .ok (.bipush 48, 2) := by decide +kernel
theorem dX12_isFigure_3 : decode cX12_isFigure 3 = .ok (.bipush 57, 2) := by decide +kernel
theorem dX12_isFigure_5 : decode cX12_isFigure 5 = .ok (.invokestatic 87, 3) := by decide +kernel
theorem dX12_isFigure_8 : decode cX12_isFigure 8 = .ok (.ireturn, 1) := by decide +kernel
theorem dX12_isWord_0 : decode cX12_isWord 0 = .ok (.aload_n 0, 1) := by decide +kernel
theorem dX12_isWord_1 : decode cX12_isWord 1 = .ok (.getfield 26, 3) := by decide +kernel
theorem dX12_isWord_4 : decode cX12_isWord 4 = .ok (.aload_n 0, 1) := by decide +kernel
theorem dX12_isWord_5 : decode cX12_isWord 5 = .ok (.getfield 91, 3) := by decide +kernel
theorem dX12_isWord_8 : decode cX12_isWord 8 = .ok (.iaload, 1) := by decide +kernel
theorem dX12_isWord_9 : decode cX12_isWord 9 = .ok (.iload_n 1, 1) := by decide +kernel
theorem dX12_isWord_10 : decode cX12_isWord 10 = .ok (.if_icmp .ne 53, 3) := by decide +kernel
theorem dX12_isWord_13 : decode cX12_isWord 13 = .ok (.aload_n 0, 1) := by decide +kernel
theorem dX12_isWord_14 : decode cX12_isWord 14 = .ok (.getfield 26, 3) := by decide +kernel
theorem dX12_isWord_17 : decode cX12_isWord 17 = .ok (.aload_n 0, 1) := by decide +kernel
theorem dX12_isWord_18 : decode cX12_isWord 18 = .ok (.getfield 91, 3) := by decide +kernel
theorem dX12_isWord_21 : decode cX12_isWord 21 = .ok (.iconst 1, 1) := by decide +kernel
theorem dX12_isWord_22 : decode cX12_isWord 22 = .ok (.iadd, 1) := by decide +kernel
theorem dX12_isWord_23 : decode cX12_isWord 23 = .ok (.iaload, 1) := by decide +kernel
theorem dX12_isWord_24 : decode cX12_isWord 24 = .ok (.iload_n 2, 1) := by decide +kernel
theorem dX12_isWord_25 : decode cX12_isWord 25 = .ok (.if_icmp .ne 38, 3) := by decide +kernel
theorem dX12_isWord_28 : decode cX12_isWord 28 = .ok (.aload_n 0, 1) := by decide +kernel
theorem dX12_isWord_29 : decode cX12_isWord 29 = .ok (.getfield 26, 3) := by decide +kernel
theorem dX12_isWord_32 : decode cX12_isWord 32 = .ok (.aload_n 0, 1) := by decide +kernel
theorem dX12_isWord_33 : decode cX12_isWord 33 = .ok (.getfield 91, 3) := by decide +kernel
theorem dX12_isWord_36 : decode cX12_isWord 36 = .ok (.iconst 2, 1) := by decide +kernel
theorem dX12_isWord_37 : decode cX12_isWord 37 = .ok (.iadd, 1) := by decide +kernel
theorem dX12_isWord_38 : decode cX12_isWord 38 = .ok (.iaload, 1) := by decide +kernel
theorem dX12_isWord_39 : decode cX12_isWord 39 = .ok (.iload_n 3, 1) := by decide +kernel
theorem dX12_isWord_40 : decode cX12_isWord 40 = .ok (.if_icmp .ne 23, 3) := by decide +kernel
theorem dX12_isWord_43 : decode cX12_isWord 43 = .ok (.aload_n 0, 1) := by decide +kernel
theorem dX12_isWord_44 : decode cX12_isWord 44 = .ok (.getfield 26, 3) := by decide +kernel
theorem dX12_isWord_47 : decode cX12_isWord 47 = .ok (.aload_n 0, 1) := by decide +kernel
theorem dX12_isWord_48 : decode cX12_isWord 48 = .ok (.getfield 91, 3) := by decide +kernel
theorem dX12_isWord_51 : decode cX12_isWord 51 = .ok (.iconst 3, 1) := by decide +kernel
theorem dX12_isWord_52 : decode cX12_isWord 52 = .ok (.iadd, 1) := by decide +kernel
theorem dX12_isWord_53 : decode cX12_isWord 53 = .ok (.iaload, 1) := by decide +kernel
theorem dX12_isWord_54 : decode cX12_isWord 54 = .ok (.iload 4, 2) := by decide +kernel
theorem dX12_isWord_56 : decode cX12_isWord 56 = .ok (.if_icmp .ne 7, 3) := by decide +kernel
theorem dX12_isWord_59 : decode cX12_isWord 59 = .ok (.iconst 1, 1) := by decide +kernel
theorem dX12_isWord_60 : decode cX12_isWord 60 = .ok (.goto 4, 3) := by decide +kernel
theorem dX12_isWord_63 : decode cX12_isWord 63 = .ok (.iconst 0, 1) := by decide +kernel
theorem dX12_isWord_64 : decode cX12_isWord 64 = .ok (.ireturn, 1) := by decide +kernel
theorem dX12_wordOf_0 : decode cX12_wordOf 0 = .ok (.iload_n 1, 1) := by decide +kernel
theorem dX12_wordOf_1 : decode cX12_wordOf 1 = .ok (.iconst 4, 1) := by decide +kernel
theorem dX12_wordOf_2 : decode cX12_wordOf 2 = .ok (.if_icmp .ne 44, 3) := by decide +kernel
theorem dX12_wordOf_5 : decode cX12_wordOf 5 = .ok (.aload_n 0, 1) := by decide +kernel
theorem dX12_wordOf_6 : decode cX12_wordOf 6 = .ok (.bipush 114, 2) := by decide +kernel
theorem dX12_wordOf_8 : decode cX12_wordOf 8 = .ok (.bipush 117, 2) := by decide +kernel
theorem dX12_wordOf_10 : decode cX12_wordOf 10 = .ok (.bipush 108, 2) := by decide +kernel
theorem dX12_wordOf_12 : decode cX12_wordOf 12 = .ok (.bipush 101, 2) := by decide +kernel
theorem dX12_wordOf_14 : decode cX12_wordOf 14 = .ok (.invokevirtual 95, 3) := by decide +kernel
theorem dX12_wordOf_17 : decode cX12_wordOf 17 = .ok (.ifCond .eq 7, 3) := by decide +kernel
theorem dX12_wordOf_20 : decode cX12_wordOf 20 = .ok (.iconst 4, 1) := by decide +kernel
theorem dX12_wordOf_21 : decode cX12_wordOf 21 = .ok (.goto 24, 3) := by decide +kernel
theorem dX12_wordOf_24 : decode cX12_wordOf 24 = .ok (.aload_n 0, 1) := by decide +kernel
theorem dX12_wordOf_25 : decode cX12_wordOf 25 = .ok (.bipush 115, 2) := by decide +kernel
theorem dX12_wordOf_27 : decode cX12_wordOf 27 = .ok (.bipush 117, 2) := by decide +kernel
theorem dX12_wordOf_29 : decode cX12_wordOf 29 = .ok (.bipush 109, 2) := by decide +kernel
theorem dX12_wordOf_31 : decode cX12_wordOf 31 = .ok (.bipush 115, 2) := by decide +kernel
theorem dX12_wordOf_33 : decode cX12_wordOf 33 = .ok (.invokevirtual 95, 3) := by decide +kernel
theorem dX12_wordOf_36 : decode cX12_wordOf 36 = .ok (.ifCond .eq 8, 3) := by decide +kernel
theorem dX12_wordOf_39 : decode cX12_wordOf 39 = .ok (.bipush 6, 2) := by decide +kernel
theorem dX12_wordOf_41 : decode cX12_wordOf 41 = .ok (.goto 4, 3) := by decide +kernel
theorem dX12_wordOf_44 : decode cX12_wordOf 44 = .ok (.iconst 3, 1) := by decide +kernel
theorem dX12_wordOf_45 : decode cX12_wordOf 45 = .ok (.ireturn, 1) := by decide +kernel
theorem dX12_wordOf_46 : decode cX12_wordOf 46 = .ok (.iload_n 1, 1) := by decide +kernel
theorem dX12_wordOf_47 : decode cX12_wordOf 47 = .ok (.bipush 6, 2) := by decide +kernel
theorem dX12_wordOf_49 : decode cX12_wordOf 49 = .ok (.if_icmp .ne 54, 3) := by decide +kernel
theorem dX12_wordOf_52 : decode cX12_wordOf 52 = .ok (.aload_n 0, 1) := by decide +kernel
theorem dX12_wordOf_53 : decode cX12_wordOf 53 = .ok (.bipush 99, 2) := by decide +kernel
theorem dX12_wordOf_55 : decode cX12_wordOf 55 = .ok (.bipush 104, 2) := by decide +kernel
theorem dX12_wordOf_57 : decode cX12_wordOf 57 = .ok (.bipush 97, 2) := by decide +kernel
theorem dX12_wordOf_59 : decode cX12_wordOf 59 = .ok (.bipush 110, 2) := by decide +kernel
theorem dX12_wordOf_61 : decode cX12_wordOf 61 = .ok (.invokevirtual 95, 3) := by decide +kernel
theorem dX12_wordOf_64 : decode cX12_wordOf 64 = .ok (.ifCond .eq 39, 3) := by decide +kernel
theorem dX12_wordOf_67 : decode cX12_wordOf 67 = .ok (.aload_n 0, 1) := by decide +kernel
theorem dX12_wordOf_68 : decode cX12_wordOf 68 = .ok (.getfield 26, 3) := by decide +kernel
theorem dX12_wordOf_71 : decode cX12_wordOf 71 = .ok (.aload_n 0, 1) := by decide +kernel
theorem dX12_wordOf_72 : decode cX12_wordOf 72 = .ok (.getfield 91, 3) := by decide +kernel
theorem dX12_wordOf_75 : decode cX12_wordOf 75 = .ok (.iconst 4, 1) := by decide +kernel
theorem dX12_wordOf_76 : decode cX12_wordOf 76 = .ok (.iadd, 1) := by decide +kernel
theorem dX12_wordOf_77 : decode cX12_wordOf 77 = .ok (.iaload, 1) := by decide +kernel
theorem dX12_wordOf_78 : decode cX12_wordOf 78 = .ok (.bipush 99, 2) := by decide +kernel
theorem dX12_wordOf_80 : decode cX12_wordOf 80 = .ok (.if_icmp .ne 23, 3) := by decide +kernel
theorem dX12_wordOf_83 : decode cX12_wordOf 83 = .ok (.aload_n 0, 1) := by decide +kernel
theorem dX12_wordOf_84 : decode cX12_wordOf 84 = .ok (.getfield 26, 3) := by decide +kernel
theorem dX12_wordOf_87 : decode cX12_wordOf 87 = .ok (.aload_n 0, 1) := by decide +kernel
theorem dX12_wordOf_88 : decode cX12_wordOf 88 = .ok (.getfield 91, 3) := by decide +kernel
theorem dX12_wordOf_91 : decode cX12_wordOf 91 = .ok (.iconst 5, 1) := by decide +kernel
theorem dX12_wordOf_92 : decode cX12_wordOf 92 = .ok (.iadd, 1) := by decide +kernel
theorem dX12_wordOf_93 : decode cX12_wordOf 93 = .ok (.iaload, 1) := by decide +kernel
theorem dX12_wordOf_94 : decode cX12_wordOf 94 = .ok (.bipush 101, 2) := by decide +kernel
theorem dX12_wordOf_96 : decode cX12_wordOf 96 = .ok (.if_icmp .ne 7, 3) := by decide +kernel
theorem dX12_wordOf_99 : decode cX12_wordOf 99 = .ok (.iconst 1, 1) := by decide +kernel
theorem dX12_wordOf_100 : decode cX12_wordOf 100 = .ok (.goto 4, 3) := by decide +kernel
theorem dX12_wordOf_103 : decode cX12_wordOf 103 = .ok (.iconst 0, 1) := by decide +kernel
theorem dX12_wordOf_104 : decode cX12_wordOf 104 = .ok (.istore_n 2, 1) := by decide +kernel
theorem dX12_wordOf_105 : decode cX12_wordOf 105 = .ok (.iload_n 2, 1) := by decide +kernel
theorem dX12_wordOf_106 : decode cX12_wordOf 106 = .ok (.ifCond .eq 7, 3) := by decide +kernel
theorem dX12_wordOf_109 : decode cX12_wordOf 109 = .ok (.iconst 5, 1) := by decide +kernel
theorem dX12_wordOf_110 : decode cX12_wordOf 110 = .ok (.goto 4, 3) := by decide +kernel
theorem dX12_wordOf_113 : decode cX12_wordOf 113 = .ok (.iconst 3, 1) := by decide +kernel
theorem dX12_wordOf_114 : decode cX12_wordOf 114 = .ok (.ireturn, 1) := by decide +kernel
theorem dX12_scan_0 : decode cX12_scan 0 = .ok (.aload_n 0, 1) := by decide +kernel
theorem dX12_scan_1 : decode cX12_scan 1 = .ok (.getfield 99, 3) := by decide +kernel
theorem dX12_scan_4 : decode cX12_scan 4 = .ok (.aload_n 0, 1) := by decide +kernel
theorem dX12_scan_5 : decode cX12_scan 5 = .ok (.getfield 102, 3) := by decide +kernel
theorem dX12_scan_8 : decode cX12_scan 8 = .ok (.if_icmp .ge 30, 3) := by decide +kernel
theorem dX12_scan_11 : decode cX12_scan 11 = .ok (.aload_n 0, 1) := by decide +kernel
theorem dX12_scan_12 : decode cX12_scan 12 = .ok (.getfield 26, 3) := by decide +kernel
theorem dX12_scan_15 : decode cX12_scan 15 = .ok (.aload_n 0, 1) := by decide +kernel
theorem dX12_scan_16 : decode cX12_scan 16 = .ok (.getfield 99, 3) := by decide +kernel
theorem dX12_scan_19 : decode cX12_scan 19 = .ok (.iaload, 1) := by decide +kernel
theorem dX12_scan_20 : decode cX12_scan 20 = .ok (.bipush 32, 2) := by decide +kernel
theorem dX12_scan_22 : decode cX12_scan 22 = .ok (.if_icmp .ne 16, 3) := by decide +kernel
theorem dX12_scan_25 : decode cX12_scan 25 = .ok (.aload_n 0, 1) := by decide +kernel
theorem dX12_scan_26 : decode cX12_scan 26 = .ok (.dup, 1) := by decide +kernel
theorem dX12_scan_27 : decode cX12_scan 27 = .ok (.getfield 99, 3) := by decide +kernel
theorem dX12_scan_30 : decode cX12_scan 30 = .ok (.iconst 1, 1) := by decide +kernel
theorem dX12_scan_31 : decode cX12_scan 31 = .ok (.iadd, 1) := by decide +kernel
theorem dX12_scan_32 : decode cX12_scan 32 = .ok (.putfield 99, 3) := by decide +kernel
theorem dX12_scan_35 : decode cX12_scan 35 = .ok (.goto (-35), 3) := by decide +kernel
theorem dX12_scan_38 : decode cX12_scan 38 = .ok (.aload_n 0, 1) := by decide +kernel
theorem dX12_scan_39 : decode cX12_scan 39 = .ok (.aload_n 0, 1) := by decide +kernel
theorem dX12_scan_40 : decode cX12_scan 40 = .ok (.getfield 99, 3) := by decide +kernel
theorem dX12_scan_43 : decode cX12_scan 43 = .ok (.putfield 91, 3) := by decide +kernel
theorem dX12_scan_46 : decode cX12_scan 46 = .ok (.aload_n 0, 1) := by decide +kernel
theorem dX12_scan_47 : decode cX12_scan 47 = .ok (.getfield 99, 3) := by decide +kernel
theorem dX12_scan_50 : decode cX12_scan 50 = .ok (.aload_n 0, 1) := by decide +kernel
theorem dX12_scan_51 : decode cX12_scan 51 = .ok (.getfield 102, 3) := by decide +kernel
theorem dX12_scan_54 : decode cX12_scan 54 = .ok (.if_icmp .ge 15, 3) := by decide +kernel
theorem dX12_scan_57 : decode cX12_scan 57 = .ok (.aload_n 0, 1) := by decide +kernel
theorem dX12_scan_58 : decode cX12_scan 58 = .ok (.getfield 26, 3) := by decide +kernel
theorem dX12_scan_61 : decode cX12_scan 61 = .ok (.aload_n 0, 1) := by decide +kernel
theorem dX12_scan_62 : decode cX12_scan 62 = .ok (.getfield 99, 3) := by decide +kernel
theorem dX12_scan_65 : decode cX12_scan 65 = .ok (.iaload, 1) := by decide +kernel
theorem dX12_scan_66 : decode cX12_scan 66 = .ok (.goto 4, 3) := by decide +kernel
theorem dX12_scan_69 : decode cX12_scan 69 = .ok (.iconst 0, 1) := by decide +kernel
theorem dX12_scan_70 : decode cX12_scan 70 = .ok (.istore_n 1, 1) := by decide +kernel
theorem dX12_scan_71 : decode cX12_scan 71 = .ok (.aload_n 0, 1) := by decide +kernel
theorem dX12_scan_72 : decode cX12_scan 72 = .ok (.getfield 99, 3) := by decide +kernel
theorem dX12_scan_75 : decode cX12_scan 75 = .ok (.aload_n 0, 1) := by decide +kernel
theorem dX12_scan_76 : decode cX12_scan 76 = .ok (.getfield 102, 3) := by decide +kernel
theorem dX12_scan_79 : decode cX12_scan 79 = .ok (.if_icmp .ne 11, 3) := by decide +kernel
theorem dX12_scan_82 : decode cX12_scan 82 = .ok (.aload_n 0, 1) := by decide +kernel
theorem dX12_scan_83 : decode cX12_scan 83 = .ok (.iconst 2, 1) := by decide +kernel
theorem dX12_scan_84 : decode cX12_scan 84 = .ok (.putfield 105, 3) := by decide +kernel
theorem dX12_scan_87 : decode cX12_scan 87 = .ok (.goto 225, 3) := by decide +kernel
theorem dX12_scan_90 : decode cX12_scan 90 = .ok (.iload_n 1, 1) := by decide +kernel
theorem dX12_scan_91 : decode cX12_scan 91 = .ok (.invokestatic 108, 3) := by decide +kernel
theorem dX12_scan_94 : decode cX12_scan 94 = .ok (.ifCond .eq 127, 3) := by decide +kernel
theorem dX12_scan_97 : decode cX12_scan 97 = .ok (.aload_n 0, 1) := by decide +kernel
theorem dX12_scan_98 : decode cX12_scan 98 = .ok (.iconst 0, 1) := by decide +kernel
theorem dX12_scan_99 : decode cX12_scan 99 = .ok (.putfield 112, 3) := by decide +kernel
theorem dX12_scan_102 : decode cX12_scan 102 = .ok (.aload_n 0, 1) := by decide +kernel
theorem dX12_scan_103 : decode cX12_scan 103 = .ok (.getfield 99, 3) := by decide +kernel
theorem dX12_scan_106 : decode cX12_scan 106 = .ok (.aload_n 0, 1) := by decide +kernel
theorem dX12_scan_107 : decode cX12_scan 107 = .ok (.getfield 102, 3) := by decide +kernel
theorem dX12_scan_110 : decode cX12_scan 110 = .ok (.if_icmp .ge 71, 3) := by decide +kernel
theorem dX12_scan_113 : decode cX12_scan 113 = .ok (.aload_n 0, 1) := by decide +kernel
theorem dX12_scan_114 : decode cX12_scan 114 = .ok (.getfield 26, 3) := by decide +kernel
theorem dX12_scan_117 : decode cX12_scan 117 = .ok (.aload_n 0, 1) := by decide +kernel
theorem dX12_scan_118 : decode cX12_scan 118 = .ok (.getfield 99, 3) := by decide +kernel
theorem dX12_scan_121 : decode cX12_scan 121 = .ok (.iaload, 1) := by decide +kernel
theorem dX12_scan_122 : decode cX12_scan 122 = .ok (.invokestatic 108, 3) := by decide +kernel
theorem dX12_scan_125 : decode cX12_scan 125 = .ok (.ifCond .eq 56, 3) := by decide +kernel
theorem dX12_scan_128 : decode cX12_scan 128 = .ok (.aload_n 0, 1) := by decide +kernel
theorem dX12_scan_129 : decode cX12_scan 129 = .ok (.aload_n 0, 1) := by decide +kernel
theorem dX12_scan_130 : decode cX12_scan 130 = .ok (.getfield 112, 3) := by decide +kernel
theorem dX12_scan_133 : decode cX12_scan 133 = .ok (.bipush 99, 2) := by decide +kernel
theorem dX12_scan_135 : decode cX12_scan 135 = .ok (.if_icmp .le 10, 3) := by decide +kernel
theorem dX12_scan_138 : decode cX12_scan 138 = .ok (.aload_n 0, 1) := by decide +kernel
theorem dX12_scan_139 : decode cX12_scan 139 = .ok (.getfield 112, 3) := by decide +kernel
theorem dX12_scan_142 : decode cX12_scan 142 = .ok (.goto 23, 3) := by decide +kernel
theorem dX12_scan_145 : decode cX12_scan 145 = .ok (.bipush 10, 2) := by decide +kernel
theorem dX12_scan_147 : decode cX12_scan 147 = .ok (.aload_n 0, 1) := by decide +kernel
theorem dX12_scan_148 : decode cX12_scan 148 = .ok (.getfield 112, 3) := by decide +kernel
theorem dX12_scan_151 : decode cX12_scan 151 = .ok (.imul, 1) := by decide +kernel
theorem dX12_scan_152 : decode cX12_scan 152 = .ok (.aload_n 0, 1) := by decide +kernel
theorem dX12_scan_153 : decode cX12_scan 153 = .ok (.getfield 26, 3) := by decide +kernel
theorem dX12_scan_156 : decode cX12_scan 156 = .ok (.aload_n 0, 1) := by decide +kernel
theorem dX12_scan_157 : decode cX12_scan 157 = .ok (.getfield 99, 3) := by decide +kernel
theorem dX12_scan_160 : decode cX12_scan 160 = .ok (.iaload, 1) := by decide +kernel
theorem dX12_scan_161 : decode cX12_scan 161 = .ok (.iadd, 1) := by decide +kernel
theorem dX12_scan_162 : decode cX12_scan 162 = .ok (.bipush 48, 2) := by decide +kernel
theorem dX12_scan_164 : decode cX12_scan 164 = .ok (.isub, 1) := by decide +kernel
theorem dX12_scan_165 : decode cX12_scan 165 = .ok (.putfield 112, 3) := by decide +kernel
theorem dX12_scan_168 : decode cX12_scan 168 = .ok (.aload_n 0, 1) := by decide +kernel
theorem dX12_scan_169 : decode cX12_scan 169 = .ok (.dup, 1) := by decide +kernel
theorem dX12_scan_170 : decode cX12_scan 170 = .ok (.getfield 99, 3) := by decide +kernel
theorem dX12_scan_173 : decode cX12_scan 173 = .ok (.iconst 1, 1) := by decide +kernel
theorem dX12_scan_174 : decode cX12_scan 174 = .ok (.iadd, 1) := by decide +kernel
theorem dX12_scan_175 : decode cX12_scan 175 = .ok (.putfield 99, 3) := by decide +kernel
theorem dX12_scan_178 : decode cX12_scan 178 = .ok (.goto (-76), 3) := by decide +kernel
theorem dX12_scan_181 : decode cX12_scan 181 = .ok (.aload_n 0, 1) := by decide +kernel
theorem dX12_scan_182 : decode cX12_scan 182 = .ok (.aload_n 0, 1) := by decide +kernel
theorem dX12_scan_183 : decode cX12_scan 183 = .ok (.getfield 112, 3) := by decide +kernel
theorem dX12_scan_186 : decode cX12_scan 186 = .ok (.bipush 99, 2) := by decide +kernel
theorem dX12_scan_188 : decode cX12_scan 188 = .ok (.if_icmp .gt 22, 3) := by decide +kernel
theorem dX12_scan_191 : decode cX12_scan 191 = .ok (.iload_n 1, 1) := by decide +kernel
theorem dX12_scan_192 : decode cX12_scan 192 = .ok (.bipush 48, 2) := by decide +kernel
theorem dX12_scan_194 : decode cX12_scan 194 = .ok (.if_icmp .ne 20, 3) := by decide +kernel
theorem dX12_scan_197 : decode cX12_scan 197 = .ok (.aload_n 0, 1) := by decide +kernel
theorem dX12_scan_198 : decode cX12_scan 198 = .ok (.getfield 99, 3) := by decide +kernel
theorem dX12_scan_201 : decode cX12_scan 201 = .ok (.aload_n 0, 1) := by decide +kernel
theorem dX12_scan_202 : decode cX12_scan 202 = .ok (.getfield 91, 3) := by decide +kernel
theorem dX12_scan_205 : decode cX12_scan 205 = .ok (.iconst 1, 1) := by decide +kernel
theorem dX12_scan_206 : decode cX12_scan 206 = .ok (.iadd, 1) := by decide +kernel
theorem dX12_scan_207 : decode cX12_scan 207 = .ok (.if_icmp .le 7, 3) := by decide +kernel
theorem dX12_scan_210 : decode cX12_scan 210 = .ok (.iconst 3, 1) := by decide +kernel
theorem dX12_scan_211 : decode cX12_scan 211 = .ok (.goto 4, 3) := by decide +kernel
theorem dX12_scan_214 : decode cX12_scan 214 = .ok (.iconst 1, 1) := by decide +kernel
theorem dX12_scan_215 : decode cX12_scan 215 = .ok (.putfield 105, 3) := by decide +kernel
theorem dX12_scan_218 : decode cX12_scan 218 = .ok (.goto 94, 3) := by decide +kernel
theorem dX12_scan_221 : decode cX12_scan 221 = .ok (.iload_n 1, 1) := by decide +kernel
theorem dX12_scan_222 : decode cX12_scan 222 = .ok (.invokestatic 115, 3) := by decide +kernel
theorem dX12_scan_225 : decode cX12_scan 225 = .ok (.ifCond .eq 62, 3) := by decide +kernel
theorem dX12_scan_228 : decode cX12_scan 228 = .ok (.aload_n 0, 1) := by decide +kernel
theorem dX12_scan_229 : decode cX12_scan 229 = .ok (.getfield 99, 3) := by decide +kernel
theorem dX12_scan_232 : decode cX12_scan 232 = .ok (.aload_n 0, 1) := by decide +kernel
theorem dX12_scan_233 : decode cX12_scan 233 = .ok (.getfield 102, 3) := by decide +kernel
theorem dX12_scan_236 : decode cX12_scan 236 = .ok (.if_icmp .ge 31, 3) := by decide +kernel
theorem dX12_scan_239 : decode cX12_scan 239 = .ok (.aload_n 0, 1) := by decide +kernel
theorem dX12_scan_240 : decode cX12_scan 240 = .ok (.getfield 26, 3) := by decide +kernel
theorem dX12_scan_243 : decode cX12_scan 243 = .ok (.aload_n 0, 1) := by decide +kernel
theorem dX12_scan_244 : decode cX12_scan 244 = .ok (.getfield 99, 3) := by decide +kernel
theorem dX12_scan_247 : decode cX12_scan 247 = .ok (.iaload, 1) := by decide +kernel
theorem dX12_scan_248 : decode cX12_scan 248 = .ok (.invokestatic 115, 3) := by decide +kernel
theorem dX12_scan_251 : decode cX12_scan 251 = .ok (.ifCond .eq 16, 3) := by decide +kernel
theorem dX12_scan_254 : decode cX12_scan 254 = .ok (.aload_n 0, 1) := by decide +kernel
theorem dX12_scan_255 : decode cX12_scan 255 = .ok (.dup, 1) := by decide +kernel
theorem dX12_scan_256 : decode cX12_scan 256 = .ok (.getfield 99, 3) := by decide +kernel
theorem dX12_scan_259 : decode cX12_scan 259 = .ok (.iconst 1, 1) := by decide +kernel
theorem dX12_scan_260 : decode cX12_scan 260 = .ok (.iadd, 1) := by decide +kernel
theorem dX12_scan_261 : decode cX12_scan 261 = .ok (.putfield 99, 3) := by decide +kernel
theorem dX12_scan_264 : decode cX12_scan 264 = .ok (.goto (-36), 3) := by decide +kernel
theorem dX12_scan_267 : decode cX12_scan 267 = .ok (.aload_n 0, 1) := by decide +kernel
theorem dX12_scan_268 : decode cX12_scan 268 = .ok (.aload_n 0, 1) := by decide +kernel
theorem dX12_scan_269 : decode cX12_scan 269 = .ok (.aload_n 0, 1) := by decide +kernel
theorem dX12_scan_270 : decode cX12_scan 270 = .ok (.getfield 99, 3) := by decide +kernel
theorem dX12_scan_273 : decode cX12_scan 273 = .ok (.aload_n 0, 1) := by decide +kernel
theorem dX12_scan_274 : decode cX12_scan 274 = .ok (.getfield 91, 3) := by decide +kernel
theorem dX12_scan_277 : decode cX12_scan 277 = .ok (.isub, 1) := by decide +kernel
theorem dX12_scan_278 : decode cX12_scan 278 = .ok (.invokevirtual 118, 3) := by decide +kernel
theorem dX12_scan_281 : decode cX12_scan 281 = .ok (.putfield 105, 3) := by decide +kernel
