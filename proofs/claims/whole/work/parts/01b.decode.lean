theorem dX0_init_0 : decode cX0_init 0 = .ok (.aload_n 0, 1) := by decide +kernel
theorem dX0_init_1 : decode cX0_init 1 = .ok (.invokespecial 3, 3) := by decide +kernel
theorem dX0_init_4 : decode cX0_init 4 = .ok (.aload_n 0, 1) := by decide +kernel
theorem dX0_init_5 : decode cX0_init 5 = .ok (.bipush 6, 2) := by decide +kernel
theorem dX0_init_7 : decode cX0_init 7 = .ok (.anewarray 9, 3) := by decide +kernel
theorem dX0_init_10 : decode cX0_init 10 = .ok (.putfield 11, 3) := by decide +kernel
theorem dX0_init_13 : decode cX0_init 13 = .ok (.aload_n 0, 1) := by decide +kernel
theorem dX0_init_14 : decode cX0_init 14 = .ok (.iconst 0, 1) := by decide +kernel
theorem dX0_init_15 : decode cX0_init 15 = .ok (.putfield 17, 3) := by decide +kernel
theorem dX0_init_18 : decode cX0_init 18 = .ok (.aload_n 0, 1) := by decide +kernel
theorem dX0_init_19 : decode cX0_init 19 = .ok (.iconst 0, 1) := by decide +kernel
theorem dX0_init_20 : decode cX0_init 20 = .ok (.putfield 21, 3) := by decide +kernel
theorem dX0_init_23 : decode cX0_init 23 = .ok (.iconst 0, 1) := by decide +kernel
theorem dX0_init_24 : decode cX0_init 24 = .ok (.istore_n 1, 1) := by decide +kernel
theorem dX0_init_25 : decode cX0_init 25 = .ok (.iload_n 1, 1) := by decide +kernel
theorem dX0_init_26 : decode cX0_init 26 = .ok (.bipush 6, 2) := by decide +kernel
theorem dX0_init_28 : decode cX0_init 28 = .ok (.if_icmp .ge 22, 3) := by decide +kernel
theorem dX0_init_31 : decode cX0_init 31 = .ok (.aload_n 0, 1) := by decide +kernel
theorem dX0_init_32 : decode cX0_init 32 = .ok (.getfield 11, 3) := by decide +kernel
theorem dX0_init_35 : decode cX0_init 35 = .ok (.iload_n 1, 1) := by decide +kernel
theorem dX0_init_36 : decode cX0_init 36 = .ok (.new 9, 3) := by decide +kernel
theorem dX0_init_39 : decode cX0_init 39 = .ok (.dup, 1) := by decide +kernel
theorem dX0_init_40 : decode cX0_init 40 = .ok (.invokespecial 24, 3) := by decide +kernel
theorem dX0_init_43 : decode cX0_init 43 = .ok (.aastore, 1) := by decide +kernel
theorem dX0_init_44 : decode cX0_init 44 = .ok (.iinc 1 1, 3) := by decide +kernel
theorem dX0_init_47 : decode cX0_init 47 = .ok (.goto (-22), 3) := by decide +kernel
theorem dX0_init_50 : decode cX0_init 50 = .ok (.return_, 1) := by decide +kernel
theorem dX0_note_0 : decode cX0_note 0 = .ok (.aload_n 0, 1) := by decide +kernel
theorem dX0_note_1 : decode cX0_note 1 = .ok (.getfield 11, 3) := by decide +kernel
theorem dX0_note_4 : decode cX0_note 4 = .ok (.aload_n 0, 1) := by decide +kernel
theorem dX0_note_5 : decode cX0_note 5 = .ok (.getfield 17, 3) := by decide +kernel
theorem dX0_note_8 : decode cX0_note 8 = .ok (.bipush 6, 2) := by decide +kernel
theorem dX0_note_10 : decode cX0_note 10 = .ok (.invokestatic 25, 3) := by decide +kernel
theorem dX0_note_13 : decode cX0_note 13 = .ok (.aaload, 1) := by decide +kernel
theorem dX0_note_14 : decode cX0_note 14 = .ok (.aload_n 1, 1) := by decide +kernel
theorem dX0_note_15 : decode cX0_note 15 = .ok (.invokevirtual 31, 3) := by decide +kernel
theorem dX0_note_18 : decode cX0_note 18 = .ok (.aload_n 0, 1) := by decide +kernel
theorem dX0_note_19 : decode cX0_note 19 = .ok (.dup, 1) := by decide +kernel
theorem dX0_note_20 : decode cX0_note 20 = .ok (.getfield 17, 3) := by decide +kernel
theorem dX0_note_23 : decode cX0_note 23 = .ok (.iconst 1, 1) := by decide +kernel
theorem dX0_note_24 : decode cX0_note 24 = .ok (.iadd, 1) := by decide +kernel
theorem dX0_note_25 : decode cX0_note 25 = .ok (.putfield 17, 3) := by decide +kernel
theorem dX0_note_28 : decode cX0_note 28 = .ok (.aload_n 0, 1) := by decide +kernel
theorem dX0_note_29 : decode cX0_note 29 = .ok (.aload_n 0, 1) := by decide +kernel
theorem dX0_note_30 : decode cX0_note 30 = .ok (.getfield 21, 3) := by decide +kernel
theorem dX0_note_33 : decode cX0_note 33 = .ok (.iconst 1, 1) := by decide +kernel
theorem dX0_note_34 : decode cX0_note 34 = .ok (.iadd, 1) := by decide +kernel
theorem dX0_note_35 : decode cX0_note 35 = .ok (.bipush 6, 2) := by decide +kernel
theorem dX0_note_37 : decode cX0_note 37 = .ok (.invokestatic 35, 3) := by decide +kernel
theorem dX0_note_40 : decode cX0_note 40 = .ok (.putfield 21, 3) := by decide +kernel
theorem dX0_note_43 : decode cX0_note 43 = .ok (.return_, 1) := by decide +kernel
theorem dX0_giveLatest_0 : decode cX0_giveLatest 0 = .ok (.aload_n 0, 1) := by decide +kernel
theorem dX0_giveLatest_1 : decode cX0_giveLatest 1 = .ok (.getfield 21, 3) := by decide +kernel
theorem dX0_giveLatest_4 : decode cX0_giveLatest 4 = .ok (.ifCond .gt 4, 3) := by decide +kernel
theorem dX0_giveLatest_7 : decode cX0_giveLatest 7 = .ok (.return_, 1) := by decide +kernel
theorem dX0_giveLatest_8 : decode cX0_giveLatest 8 = .ok (.aload_n 0, 1) := by decide +kernel
theorem dX0_giveLatest_9 : decode cX0_giveLatest 9 = .ok (.dup, 1) := by decide +kernel
theorem dX0_giveLatest_10 : decode cX0_giveLatest 10 = .ok (.getfield 17, 3) := by decide +kernel
theorem dX0_giveLatest_13 : decode cX0_giveLatest 13 = .ok (.iconst 1, 1) := by decide +kernel
theorem dX0_giveLatest_14 : decode cX0_giveLatest 14 = .ok (.isub, 1) := by decide +kernel
theorem dX0_giveLatest_15 : decode cX0_giveLatest 15 = .ok (.putfield 17, 3) := by decide +kernel
theorem dX0_giveLatest_18 : decode cX0_giveLatest 18 = .ok (.aload_n 0, 1) := by decide +kernel
theorem dX0_giveLatest_19 : decode cX0_giveLatest 19 = .ok (.dup, 1) := by decide +kernel
theorem dX0_giveLatest_20 : decode cX0_giveLatest 20 = .ok (.getfield 21, 3) := by decide +kernel
theorem dX0_giveLatest_23 : decode cX0_giveLatest 23 = .ok (.iconst 1, 1) := by decide +kernel
theorem dX0_giveLatest_24 : decode cX0_giveLatest 24 = .ok (.isub, 1) := by decide +kernel
theorem dX0_giveLatest_25 : decode cX0_giveLatest 25 = .ok (.putfield 21, 3) := by decide +kernel
theorem dX0_giveLatest_28 : decode cX0_giveLatest 28 = .ok (.aload_n 1, 1) := by decide +kernel
theorem dX0_giveLatest_29 : decode cX0_giveLatest 29 = .ok (.aload_n 0, 1) := by decide +kernel
theorem dX0_giveLatest_30 : decode cX0_giveLatest 30 = .ok (.getfield 11, 3) := by decide +kernel
theorem dX0_giveLatest_33 : decode cX0_giveLatest 33 = .ok (.aload_n 0, 1) := by decide +kernel
theorem dX0_giveLatest_34 : decode cX0_giveLatest 34 = .ok (.getfield 17, 3) := by decide +kernel
theorem dX0_giveLatest_37 : decode cX0_giveLatest 37 = .ok (.bipush 6, 2) := by decide +kernel
theorem dX0_giveLatest_39 : decode cX0_giveLatest 39 = .ok (.invokestatic 25, 3) := by decide +kernel
theorem dX0_giveLatest_42 : decode cX0_giveLatest 42 = .ok (.aaload, 1) := by decide +kernel
theorem dX0_giveLatest_43 : decode cX0_giveLatest 43 = .ok (.invokevirtual 31, 3) := by decide +kernel
theorem dX0_giveLatest_46 : decode cX0_giveLatest 46 = .ok (.return_, 1) := by decide +kernel
theorem dX0_forget_0 : decode cX0_forget 0 = .ok (.aload_n 0, 1) := by decide +kernel
theorem dX0_forget_1 : decode cX0_forget 1 = .ok (.iconst 0, 1) := by decide +kernel
theorem dX0_forget_2 : decode cX0_forget 2 = .ok (.putfield 21, 3) := by decide +kernel
theorem dX0_forget_5 : decode cX0_forget 5 = .ok (.return_, 1) := by decide +kernel
theorem dX1_init_0 : decode cX1_init 0 = .ok (.aload_n 0, 1) := by decide +kernel
theorem dX1_init_1 : decode cX1_init 1 = .ok (.invokespecial 3, 3) := by decide +kernel
theorem dX1_init_4 : decode cX1_init 4 = .ok (.aload_n 0, 1) := by decide +kernel
theorem dX1_init_5 : decode cX1_init 5 = .ok (.new 9, 3) := by decide +kernel
theorem dX1_init_8 : decode cX1_init 8 = .ok (.dup, 1) := by decide +kernel
theorem dX1_init_9 : decode cX1_init 9 = .ok (.invokespecial 11, 3) := by decide +kernel
theorem dX1_init_12 : decode cX1_init 12 = .ok (.putfield 12, 3) := by decide +kernel
theorem dX1_init_15 : decode cX1_init 15 = .ok (.aload_n 0, 1) := by decide +kernel
theorem dX1_init_16 : decode cX1_init 16 = .ok (.sipush 320, 3) := by decide +kernel
theorem dX1_init_19 : decode cX1_init 19 = .ok (.newarray .int, 2) := by decide +kernel
theorem dX1_init_21 : decode cX1_init 21 = .ok (.putfield 18, 3) := by decide +kernel
theorem dX1_init_24 : decode cX1_init 24 = .ok (.aload_n 0, 1) := by decide +kernel
theorem dX1_init_25 : decode cX1_init 25 = .ok (.bipush 64, 2) := by decide +kernel
theorem dX1_init_27 : decode cX1_init 27 = .ok (.newarray .int, 2) := by decide +kernel
theorem dX1_init_29 : decode cX1_init 29 = .ok (.putfield 22, 3) := by decide +kernel
theorem dX1_init_32 : decode cX1_init 32 = .ok (.aload_n 0, 1) := by decide +kernel
theorem dX1_init_33 : decode cX1_init 33 = .ok (.bipush 64, 2) := by decide +kernel
theorem dX1_init_35 : decode cX1_init 35 = .ok (.newarray .int, 2) := by decide +kernel
theorem dX1_init_37 : decode cX1_init 37 = .ok (.putfield 25, 3) := by decide +kernel
theorem dX1_init_40 : decode cX1_init 40 = .ok (.aload_n 0, 1) := by decide +kernel
theorem dX1_init_41 : decode cX1_init 41 = .ok (.bipush 64, 2) := by decide +kernel
theorem dX1_init_43 : decode cX1_init 43 = .ok (.newarray .int, 2) := by decide +kernel
theorem dX1_init_45 : decode cX1_init 45 = .ok (.putfield 28, 3) := by decide +kernel
theorem dX1_init_48 : decode cX1_init 48 = .ok (.aload_n 0, 1) := by decide +kernel
theorem dX1_init_49 : decode cX1_init 49 = .ok (.bipush 64, 2) := by decide +kernel
theorem dX1_init_51 : decode cX1_init 51 = .ok (.newarray .int, 2) := by decide +kernel
theorem dX1_init_53 : decode cX1_init 53 = .ok (.putfield 31, 3) := by decide +kernel
theorem dX1_init_56 : decode cX1_init 56 = .ok (.aload_n 0, 1) := by decide +kernel
theorem dX1_init_57 : decode cX1_init 57 = .ok (.bipush 64, 2) := by decide +kernel
theorem dX1_init_59 : decode cX1_init 59 = .ok (.newarray .int, 2) := by decide +kernel
theorem dX1_init_61 : decode cX1_init 61 = .ok (.putfield 34, 3) := by decide +kernel
theorem dX1_init_64 : decode cX1_init 64 = .ok (.aload_n 0, 1) := by decide +kernel
theorem dX1_init_65 : decode cX1_init 65 = .ok (.sipush 320, 3) := by decide +kernel
theorem dX1_init_68 : decode cX1_init 68 = .ok (.newarray .int, 2) := by decide +kernel
theorem dX1_init_70 : decode cX1_init 70 = .ok (.putfield 37, 3) := by decide +kernel
theorem dX1_init_73 : decode cX1_init 73 = .ok (.aload_n 0, 1) := by decide +kernel
theorem dX1_init_74 : decode cX1_init 74 = .ok (.bipush 64, 2) := by decide +kernel
theorem dX1_init_76 : decode cX1_init 76 = .ok (.newarray .int, 2) := by decide +kernel
theorem dX1_init_78 : decode cX1_init 78 = .ok (.putfield 40, 3) := by decide +kernel
theorem dX1_init_81 : decode cX1_init 81 = .ok (.aload_n 0, 1) := by decide +kernel
theorem dX1_init_82 : decode cX1_init 82 = .ok (.invokevirtual 43, 3) := by decide +kernel
theorem dX1_init_85 : decode cX1_init 85 = .ok (.return_, 1) := by decide +kernel
theorem dX1_fit_0 : decode cX1_fit 0 = .ok (.aload_n 0, 1) := by decide +kernel
theorem dX1_fit_1 : decode cX1_fit 1 = .ok (.getfield 12, 3) := by decide +kernel
theorem dX1_fit_4 : decode cX1_fit 4 = .ok (.aload_n 1, 1) := by decide +kernel
theorem dX1_fit_5 : decode cX1_fit 5 = .ok (.invokevirtual 46, 3) := by decide +kernel
theorem dX1_fit_8 : decode cX1_fit 8 = .ok (.ifCond .ne 15, 3) := by decide +kernel
theorem dX1_fit_11 : decode cX1_fit 11 = .ok (.aload_n 0, 1) := by decide +kernel
theorem dX1_fit_12 : decode cX1_fit 12 = .ok (.getfield 12, 3) := by decide +kernel
theorem dX1_fit_15 : decode cX1_fit 15 = .ok (.aload_n 1, 1) := by decide +kernel
theorem dX1_fit_16 : decode cX1_fit 16 = .ok (.invokevirtual 50, 3) := by decide +kernel
theorem dX1_fit_19 : decode cX1_fit 19 = .ok (.aload_n 0, 1) := by decide +kernel
theorem dX1_fit_20 : decode cX1_fit 20 = .ok (.invokevirtual 43, 3) := by decide +kernel
theorem dX1_fit_23 : decode cX1_fit 23 = .ok (.return_, 1) := by decide +kernel
theorem dX1_stateBehind_0 : decode cX1_stateBehind 0 = .ok (.iload_n 1, 1) := by decide +kernel
theorem dX1_stateBehind_1 : decode cX1_stateBehind 1 = .ok (.invokestatic 54, 3) := by decide +kernel
theorem dX1_stateBehind_4 : decode cX1_stateBehind 4 = .ok (.ifCond .eq 12, 3) := by decide +kernel
theorem dX1_stateBehind_7 : decode cX1_stateBehind 7 = .ok (.aload_n 0, 1) := by decide +kernel
theorem dX1_stateBehind_8 : decode cX1_stateBehind 8 = .ok (.getfield 22, 3) := by decide +kernel
theorem dX1_stateBehind_11 : decode cX1_stateBehind 11 = .ok (.iload_n 1, 1) := by decide +kernel
theorem dX1_stateBehind_12 : decode cX1_stateBehind 12 = .ok (.iaload, 1) := by decide +kernel
theorem dX1_stateBehind_13 : decode cX1_stateBehind 13 = .ok (.goto 4, 3) := by decide +kernel
theorem dX1_stateBehind_16 : decode cX1_stateBehind 16 = .ok (.iconst 0, 1) := by decide +kernel
theorem dX1_stateBehind_17 : decode cX1_stateBehind 17 = .ok (.istore_n 2, 1) := by decide +kernel
theorem dX1_stateBehind_18 : decode cX1_stateBehind 18 = .ok (.iload_n 2, 1) := by decide +kernel
theorem dX1_stateBehind_19 : decode cX1_stateBehind 19 = .ok (.invokestatic 54, 3) := by decide +kernel
theorem dX1_stateBehind_22 : decode cX1_stateBehind 22 = .ok (.ifCond .eq 16, 3) := by decide +kernel
theorem dX1_stateBehind_25 : decode cX1_stateBehind 25 = .ok (.iconst 0, 1) := by decide +kernel
theorem dX1_stateBehind_26 : decode cX1_stateBehind 26 = .ok (.aload_n 0, 1) := by decide +kernel
theorem dX1_stateBehind_27 : decode cX1_stateBehind 27 = .ok (.getfield 31, 3) := by decide +kernel
theorem dX1_stateBehind_30 : decode cX1_stateBehind 30 = .ok (.iload_n 2, 1) := by decide +kernel
theorem dX1_stateBehind_31 : decode cX1_stateBehind 31 = .ok (.iaload, 1) := by decide +kernel
theorem dX1_stateBehind_32 : decode cX1_stateBehind 32 = .ok (.invokestatic 58, 3) := by decide +kernel
theorem dX1_stateBehind_35 : decode cX1_stateBehind 35 = .ok (.goto 4, 3) := by decide +kernel
theorem dX1_stateBehind_38 : decode cX1_stateBehind 38 = .ok (.iconst 0, 1) := by decide +kernel
theorem dX1_stateBehind_39 : decode cX1_stateBehind 39 = .ok (.ireturn, 1) := by decide +kernel
theorem dX1_awayFrom_0 : decode cX1_awayFrom 0 = .ok (.iload_n 1, 1) := by decide +kernel
theorem dX1_awayFrom_1 : decode cX1_awayFrom 1 = .ok (.invokestatic 54, 3) := by decide +kernel
theorem dX1_awayFrom_4 : decode cX1_awayFrom 4 = .ok (.ifCond .eq 12, 3) := by decide +kernel
theorem dX1_awayFrom_7 : decode cX1_awayFrom 7 = .ok (.aload_n 0, 1) := by decide +kernel
theorem dX1_awayFrom_8 : decode cX1_awayFrom 8 = .ok (.getfield 40, 3) := by decide +kernel
theorem dX1_awayFrom_11 : decode cX1_awayFrom 11 = .ok (.iload_n 1, 1) := by decide +kernel
theorem dX1_awayFrom_12 : decode cX1_awayFrom 12 = .ok (.iaload, 1) := by decide +kernel
theorem dX1_awayFrom_13 : decode cX1_awayFrom 13 = .ok (.goto 5, 3) := by decide +kernel
theorem dX1_awayFrom_16 : decode cX1_awayFrom 16 = .ok (.bipush (-9), 2) := by decide +kernel
theorem dX1_awayFrom_18 : decode cX1_awayFrom 18 = .ok (.ireturn, 1) := by decide +kernel
theorem dX1_build_0 : decode cX1_build 0 = .ok (.aload_n 0, 1) := by decide +kernel
theorem dX1_build_1 : decode cX1_build 1 = .ok (.bipush 64, 2) := by decide +kernel
theorem dX1_build_3 : decode cX1_build 3 = .ok (.iconst 1, 1) := by decide +kernel
theorem dX1_build_4 : decode cX1_build 4 = .ok (.aload_n 0, 1) := by decide +kernel
theorem dX1_build_5 : decode cX1_build 5 = .ok (.getfield 12, 3) := by decide +kernel
theorem dX1_build_8 : decode cX1_build 8 = .ok (.invokevirtual 64, 3) := by decide +kernel
theorem dX1_build_11 : decode cX1_build 11 = .ok (.ishl, 1) := by decide +kernel
theorem dX1_build_12 : decode cX1_build 12 = .ok (.invokestatic 68, 3) := by decide +kernel
theorem dX1_build_15 : decode cX1_build 15 = .ok (.putfield 71, 3) := by decide +kernel
theorem dX1_build_18 : decode cX1_build 18 = .ok (.aload_n 0, 1) := by decide +kernel
theorem dX1_build_19 : decode cX1_build 19 = .ok (.invokevirtual 75, 3) := by decide +kernel
theorem dX1_build_22 : decode cX1_build 22 = .ok (.aload_n 0, 1) := by decide +kernel
theorem dX1_build_23 : decode cX1_build 23 = .ok (.getfield 22, 3) := by decide +kernel
theorem dX1_build_26 : decode cX1_build 26 = .ok (.iconst 0, 1) := by decide +kernel
theorem dX1_build_27 : decode cX1_build 27 = .ok (.invokestatic 78, 3) := by decide +kernel
theorem dX1_build_30 : decode cX1_build 30 = .ok (.iconst 1, 1) := by decide +kernel
theorem dX1_build_31 : decode cX1_build 31 = .ok (.istore_n 1, 1) := by decide +kernel
theorem dX1_build_32 : decode cX1_build 32 = .ok (.iconst 0, 1) := by decide +kernel
theorem dX1_build_33 : decode cX1_build 33 = .ok (.istore_n 2, 1) := by decide +kernel
theorem dX1_build_34 : decode cX1_build 34 = .ok (.iload_n 2, 1) := by decide +kernel
theorem dX1_build_35 : decode cX1_build 35 = .ok (.bipush 64, 2) := by decide +kernel
theorem dX1_build_37 : decode cX1_build 37 = .ok (.if_icmp .ge 24, 3) := by decide +kernel
theorem dX1_build_40 : decode cX1_build 40 = .ok (.aload_n 0, 1) := by decide +kernel
theorem dX1_build_41 : decode cX1_build 41 = .ok (.invokevirtual 84, 3) := by decide +kernel
theorem dX1_build_44 : decode cX1_build 44 = .ok (.istore_n 3, 1) := by decide +kernel
theorem dX1_build_45 : decode cX1_build 45 = .ok (.iload_n 3, 1) := by decide +kernel
theorem dX1_build_46 : decode cX1_build 46 = .ok (.iload_n 1, 1) := by decide +kernel
theorem dX1_build_47 : decode cX1_build 47 = .ok (.if_icmp .ne 6, 3) := by decide +kernel
theorem dX1_build_50 : decode cX1_build 50 = .ok (.goto 11, 3) := by decide +kernel
theorem dX1_build_53 : decode cX1_build 53 = .ok (.iload_n 3, 1) := by decide +kernel
theorem dX1_build_54 : decode cX1_build 54 = .ok (.istore_n 1, 1) := by decide +kernel
theorem dX1_build_55 : decode cX1_build 55 = .ok (.iinc 2 1, 3) := by decide +kernel
theorem dX1_build_58 : decode cX1_build 58 = .ok (.goto (-24), 3) := by decide +kernel
theorem dX1_build_61 : decode cX1_build 61 = .ok (.aload_n 0, 1) := by decide +kernel
theorem dX1_build_62 : decode cX1_build 62 = .ok (.invokevirtual 87, 3) := by decide +kernel
theorem dX1_build_65 : decode cX1_build 65 = .ok (.aload_n 0, 1) := by decide +kernel
theorem dX1_build_66 : decode cX1_build 66 = .ok (.invokevirtual 90, 3) := by decide +kernel
theorem dX1_build_69 : decode cX1_build 69 = .ok (.return_, 1) := by decide +kernel
theorem dX1_lead_0 : decode cX1_lead 0 = .ok (.iconst 0, 1) := by decide +kernel
theorem dX1_lead_1 : decode cX1_lead 1 = .ok (.istore_n 1, 1) := by decide +kernel
theorem dX1_lead_2 : decode cX1_lead 2 = .ok (.iload_n 1, 1) := by decide +kernel
theorem dX1_lead_3 : decode cX1_lead 3 = .ok (.aload_n 0, 1) := by decide +kernel
theorem dX1_lead_4 : decode cX1_lead 4 = .ok (.getfield 71, 3) := by decide +kernel
theorem dX1_lead_7 : decode cX1_lead 7 = .ok (.if_icmp .ge 69, 3) := by decide +kernel
theorem dX1_lead_10 : decode cX1_lead 10 = .ok (.iconst 0, 1) := by decide +kernel
theorem dX1_lead_11 : decode cX1_lead 11 = .ok (.istore_n 2, 1) := by decide +kernel
theorem dX1_lead_12 : decode cX1_lead 12 = .ok (.iload_n 2, 1) := by decide +kernel
theorem dX1_lead_13 : decode cX1_lead 13 = .ok (.iconst 5, 1) := by decide +kernel
theorem dX1_lead_14 : decode cX1_lead 14 = .ok (.if_icmp .ge 56, 3) := by decide +kernel
theorem dX1_lead_17 : decode cX1_lead 17 = .ok (.aload_n 0, 1) := by decide +kernel
theorem dX1_lead_18 : decode cX1_lead 18 = .ok (.getfield 12, 3) := by decide +kernel
theorem dX1_lead_21 : decode cX1_lead 21 = .ok (.iload_n 1, 1) := by decide +kernel
theorem dX1_lead_22 : decode cX1_lead 22 = .ok (.iload_n 2, 1) := by decide +kernel
theorem dX1_lead_23 : decode cX1_lead 23 = .ok (.invokevirtual 93, 3) := by decide +kernel
theorem dX1_lead_26 : decode cX1_lead 26 = .ok (.istore_n 3, 1) := by decide +kernel
theorem dX1_lead_27 : decode cX1_lead 27 = .ok (.iload_n 3, 1) := by decide +kernel
theorem dX1_lead_28 : decode cX1_lead 28 = .ok (.bipush 7, 2) := by decide +kernel
theorem dX1_lead_30 : decode cX1_lead 30 = .ok (.iand, 1) := by decide +kernel
theorem dX1_lead_31 : decode cX1_lead 31 = .ok (.ifCond .eq 7, 3) := by decide +kernel
theorem dX1_lead_34 : decode cX1_lead 34 = .ok (.iconst 1, 1) := by decide +kernel
theorem dX1_lead_35 : decode cX1_lead 35 = .ok (.goto 4, 3) := by decide +kernel
theorem dX1_lead_38 : decode cX1_lead 38 = .ok (.iconst 0, 1) := by decide +kernel
theorem dX1_lead_39 : decode cX1_lead 39 = .ok (.istore 4, 2) := by decide +kernel
theorem dX1_lead_41 : decode cX1_lead 41 = .ok (.aload_n 0, 1) := by decide +kernel
theorem dX1_lead_42 : decode cX1_lead 42 = .ok (.getfield 18, 3) := by decide +kernel
theorem dX1_lead_45 : decode cX1_lead 45 = .ok (.iload_n 1, 1) := by decide +kernel
theorem dX1_lead_46 : decode cX1_lead 46 = .ok (.iconst 5, 1) := by decide +kernel
theorem dX1_lead_47 : decode cX1_lead 47 = .ok (.imul, 1) := by decide +kernel
theorem dX1_lead_48 : decode cX1_lead 48 = .ok (.iload_n 2, 1) := by decide +kernel
theorem dX1_lead_49 : decode cX1_lead 49 = .ok (.iadd, 1) := by decide +kernel
theorem dX1_lead_50 : decode cX1_lead 50 = .ok (.iload 4, 2) := by decide +kernel
theorem dX1_lead_52 : decode cX1_lead 52 = .ok (.ifCond .eq 8, 3) := by decide +kernel
theorem dX1_lead_55 : decode cX1_lead 55 = .ok (.bipush (-5), 2) := by decide +kernel
theorem dX1_lead_57 : decode cX1_lead 57 = .ok (.goto 6, 3) := by decide +kernel
theorem dX1_lead_60 : decode cX1_lead 60 = .ok (.iload_n 3, 1) := by decide +kernel
theorem dX1_lead_61 : decode cX1_lead 61 = .ok (.iconst 3, 1) := by decide +kernel
theorem dX1_lead_62 : decode cX1_lead 62 = .ok (.ishr, 1) := by decide +kernel
theorem dX1_lead_63 : decode cX1_lead 63 = .ok (.iastore, 1) := by decide +kernel
theorem dX1_lead_64 : decode cX1_lead 64 = .ok (.iinc 2 1, 3) := by decide +kernel
theorem dX1_lead_67 : decode cX1_lead 67 = .ok (.goto (-55), 3) := by decide +kernel
theorem dX1_lead_70 : decode cX1_lead 70 = .ok (.iinc 1 1, 3) := by decide +kernel
theorem dX1_lead_73 : decode cX1_lead 73 = .ok (.goto (-71), 3) := by decide +kernel
theorem dX1_lead_76 : decode cX1_lead 76 = .ok (.return_, 1) := by decide +kernel
theorem dX1_split_0 : decode cX1_split 0 = .ok (.iconst 0, 1) := by decide +kernel
theorem dX1_split_1 : decode cX1_split 1 = .ok (.istore_n 1, 1) := by decide +kernel
theorem dX1_split_2 : decode cX1_split 2 = .ok (.iconst 0, 1) := by decide +kernel
theorem dX1_split_3 : decode cX1_split 3 = .ok (.istore_n 2, 1) := by decide +kernel
theorem dX1_split_4 : decode cX1_split 4 = .ok (.iload_n 2, 1) := by decide +kernel
theorem dX1_split_5 : decode cX1_split 5 = .ok (.aload_n 0, 1) := by decide +kernel
theorem dX1_split_6 : decode cX1_split 6 = .ok (.getfield 71, 3) := by decide +kernel
theorem dX1_split_9 : decode cX1_split 9 = .ok (.if_icmp .ge 71, 3) := by decide +kernel
theorem dX1_split_12 : decode cX1_split 12 = .ok (.aload_n 0, 1) := by decide +kernel
theorem dX1_split_13 : decode cX1_split 13 = .ok (.iload_n 2, 1) := by decide +kernel
theorem dX1_split_14 : decode cX1_split 14 = .ok (.invokevirtual 96, 3) := by decide +kernel
theorem dX1_split_17 : decode cX1_split 17 = .ok (.istore_n 3, 1) := by decide +kernel
theorem dX1_split_18 : decode cX1_split 18 = .ok (.iconst 0, 1) := by decide +kernel
theorem dX1_split_19 : decode cX1_split 19 = .ok (.istore 4, 2) := by decide +kernel
theorem dX1_split_21 : decode cX1_split 21 = .ok (.iload 4, 2) := by decide +kernel
theorem dX1_split_23 : decode cX1_split 23 = .ok (.iload_n 1, 1) := by decide +kernel
theorem dX1_split_24 : decode cX1_split 24 = .ok (.if_icmp .ge 20, 3) := by decide +kernel
theorem dX1_split_27 : decode cX1_split 27 = .ok (.aload_n 0, 1) := by decide +kernel
theorem dX1_split_28 : decode cX1_split 28 = .ok (.getfield 28, 3) := by decide +kernel
theorem dX1_split_31 : decode cX1_split 31 = .ok (.iload 4, 2) := by decide +kernel
theorem dX1_split_33 : decode cX1_split 33 = .ok (.iaload, 1) := by decide +kernel
theorem dX1_split_34 : decode cX1_split 34 = .ok (.iload_n 3, 1) := by decide +kernel
theorem dX1_split_35 : decode cX1_split 35 = .ok (.if_icmp .eq 9, 3) := by decide +kernel
theorem dX1_split_38 : decode cX1_split 38 = .ok (.iinc 4 1, 3) := by decide +kernel
theorem dX1_split_41 : decode cX1_split 41 = .ok (.goto (-20), 3) := by decide +kernel
theorem dX1_split_44 : decode cX1_split 44 = .ok (.iload 4, 2) := by decide +kernel
theorem dX1_split_46 : decode cX1_split 46 = .ok (.iload_n 1, 1) := by decide +kernel
theorem dX1_split_47 : decode cX1_split 47 = .ok (.if_icmp .ne 19, 3) := by decide +kernel
theorem dX1_split_50 : decode cX1_split 50 = .ok (.iload_n 1, 1) := by decide +kernel
theorem dX1_split_51 : decode cX1_split 51 = .ok (.bipush 64, 2) := by decide +kernel
theorem dX1_split_53 : decode cX1_split 53 = .ok (.if_icmp .ge 13, 3) := by decide +kernel
theorem dX1_split_56 : decode cX1_split 56 = .ok (.aload_n 0, 1) := by decide +kernel
theorem dX1_split_57 : decode cX1_split 57 = .ok (.getfield 28, 3) := by decide +kernel
theorem dX1_split_60 : decode cX1_split 60 = .ok (.iload_n 1, 1) := by decide +kernel
theorem dX1_split_61 : decode cX1_split 61 = .ok (.iload_n 3, 1) := by decide +kernel
theorem dX1_split_62 : decode cX1_split 62 = .ok (.iastore, 1) := by decide +kernel
theorem dX1_split_63 : decode cX1_split 63 = .ok (.iinc 1 1, 3) := by decide +kernel
theorem dX1_split_66 : decode cX1_split 66 = .ok (.aload_n 0, 1) := by decide +kernel
theorem dX1_split_67 : decode cX1_split 67 = .ok (.getfield 25, 3) := by decide +kernel
theorem dX1_split_70 : decode cX1_split 70 = .ok (.iload_n 2, 1) := by decide +kernel
theorem dX1_split_71 : decode cX1_split 71 = .ok (.iload 4, 2) := by decide +kernel
theorem dX1_split_73 : decode cX1_split 73 = .ok (.iastore, 1) := by decide +kernel
theorem dX1_split_74 : decode cX1_split 74 = .ok (.iinc 2 1, 3) := by decide +kernel
theorem dX1_split_77 : decode cX1_split 77 = .ok (.goto (-73), 3) := by decide +kernel
theorem dX1_split_80 : decode cX1_split 80 = .ok (.aload_n 0, 1) := by decide +kernel
theorem dX1_split_81 : decode cX1_split 81 = .ok (.getfield 25, 3) := by decide +kernel
theorem dX1_split_84 : decode cX1_split 84 = .ok (.iconst 0, 1) := by decide +kernel
theorem dX1_split_85 : decode cX1_split 85 = .ok (.aload_n 0, 1) := by decide +kernel
theorem dX1_split_86 : decode cX1_split 86 = .ok (.getfield 22, 3) := by decide +kernel
theorem dX1_split_89 : decode cX1_split 89 = .ok (.iconst 0, 1) := by decide +kernel
theorem dX1_split_90 : decode cX1_split 90 = .ok (.aload_n 0, 1) := by decide +kernel
theorem dX1_split_91 : decode cX1_split 91 = .ok (.getfield 71, 3) := by decide +kernel
theorem dX1_split_94 : decode cX1_split 94 = .ok (.invokestatic 100, 3) := by decide +kernel
theorem dX1_split_97 : decode cX1_split 97 = .ok (.iload_n 1, 1) := by decide +kernel
theorem dX1_split_98 : decode cX1_split 98 = .ok (.ireturn, 1) := by decide +kernel
theorem dX1_keyOf_0 : decode cX1_keyOf 0 = .ok (.iconst 0, 1) := by decide +kernel
theorem dX1_keyOf_1 : decode cX1_keyOf 1 = .ok (.istore_n 2, 1) := by decide +kernel
theorem dX1_keyOf_2 : decode cX1_keyOf 2 = .ok (.iconst 0, 1) := by decide +kernel
theorem dX1_keyOf_3 : decode cX1_keyOf 3 = .ok (.istore_n 3, 1) := by decide +kernel
theorem dX1_keyOf_4 : decode cX1_keyOf 4 = .ok (.iload_n 3, 1) := by decide +kernel
theorem dX1_keyOf_5 : decode cX1_keyOf 5 = .ok (.iconst 5, 1) := by decide +kernel
theorem dX1_keyOf_6 : decode cX1_keyOf 6 = .ok (.if_icmp .ge 47, 3) := by decide +kernel
theorem dX1_keyOf_9 : decode cX1_keyOf 9 = .ok (.aload_n 0, 1) := by decide +kernel
theorem dX1_keyOf_10 : decode cX1_keyOf 10 = .ok (.getfield 18, 3) := by decide +kernel
theorem dX1_keyOf_13 : decode cX1_keyOf 13 = .ok (.iload_n 1, 1) := by decide +kernel
theorem dX1_keyOf_14 : decode cX1_keyOf 14 = .ok (.iconst 5, 1) := by decide +kernel
theorem dX1_keyOf_15 : decode cX1_keyOf 15 = .ok (.imul, 1) := by decide +kernel
theorem dX1_keyOf_16 : decode cX1_keyOf 16 = .ok (.iload_n 3, 1) := by decide +kernel
theorem dX1_keyOf_17 : decode cX1_keyOf 17 = .ok (.iadd, 1) := by decide +kernel
theorem dX1_keyOf_18 : decode cX1_keyOf 18 = .ok (.iaload, 1) := by decide +kernel
theorem dX1_keyOf_19 : decode cX1_keyOf 19 = .ok (.istore 4, 2) := by decide +kernel
theorem dX1_keyOf_21 : decode cX1_keyOf 21 = .ok (.iload_n 2, 1) := by decide +kernel
theorem dX1_keyOf_22 : decode cX1_keyOf 22 = .ok (.bipush 65, 2) := by decide +kernel
theorem dX1_keyOf_24 : decode cX1_keyOf 24 = .ok (.imul, 1) := by decide +kernel
theorem dX1_keyOf_25 : decode cX1_keyOf 25 = .ok (.iload 4, 2) := by decide +kernel
theorem dX1_keyOf_27 : decode cX1_keyOf 27 = .ok (.invokestatic 54, 3) := by decide +kernel
theorem dX1_keyOf_30 : decode cX1_keyOf 30 = .ok (.ifCond .eq 13, 3) := by decide +kernel
theorem dX1_keyOf_33 : decode cX1_keyOf 33 = .ok (.aload_n 0, 1) := by decide +kernel
theorem dX1_keyOf_34 : decode cX1_keyOf 34 = .ok (.getfield 22, 3) := by decide +kernel
theorem dX1_keyOf_37 : decode cX1_keyOf 37 = .ok (.iload 4, 2) := by decide +kernel
theorem dX1_keyOf_39 : decode cX1_keyOf 39 = .ok (.iaload, 1) := by decide +kernel
theorem dX1_keyOf_40 : decode cX1_keyOf 40 = .ok (.goto 5, 3) := by decide +kernel
theorem dX1_keyOf_43 : decode cX1_keyOf 43 = .ok (.bipush 64, 2) := by decide +kernel
theorem dX1_keyOf_45 : decode cX1_keyOf 45 = .ok (.iadd, 1) := by decide +kernel
theorem dX1_keyOf_46 : decode cX1_keyOf 46 = .ok (.istore_n 2, 1) := by decide +kernel
theorem dX1_keyOf_47 : decode cX1_keyOf 47 = .ok (.iinc 3 1, 3) := by decide +kernel
theorem dX1_keyOf_50 : decode cX1_keyOf 50 = .ok (.goto (-46), 3) := by decide +kernel
theorem dX1_keyOf_53 : decode cX1_keyOf 53 = .ok (.iload_n 2, 1) := by decide +kernel
theorem dX1_keyOf_54 : decode cX1_keyOf 54 = .ok (.ireturn, 1) := by decide +kernel
theorem dX1_numberStates_0 : decode cX1_numberStates 0 = .ok (.aload_n 0, 1) := by decide +kernel
theorem dX1_numberStates_1 : decode cX1_numberStates 1 = .ok (.getfield 31, 3) := by decide +kernel
theorem dX1_numberStates_4 : decode cX1_numberStates 4 = .ok (.iconst (-1), 1) := by decide +kernel
theorem dX1_numberStates_5 : decode cX1_numberStates 5 = .ok (.invokestatic 78, 3) := by decide +kernel
theorem dX1_numberStates_8 : decode cX1_numberStates 8 = .ok (.aload_n 0, 1) := by decide +kernel
theorem dX1_numberStates_9 : decode cX1_numberStates 9 = .ok (.iconst 0, 1) := by decide +kernel
theorem dX1_numberStates_10 : decode cX1_numberStates 10 = .ok (.putfield 106, 3) := by decide +kernel
theorem dX1_numberStates_13 : decode cX1_numberStates 13 = .ok (.aload_n 0, 1) := by decide +kernel
theorem dX1_numberStates_14 : decode cX1_numberStates 14 = .ok (.iconst 0, 1) := by decide +kernel
theorem dX1_numberStates_15 : decode cX1_numberStates 15 = .ok (.invokevirtual 109, 3) := by decide +kernel
theorem dX1_numberStates_18 : decode cX1_numberStates 18 = .ok (.pop, 1) := by decide +kernel
theorem dX1_numberStates_19 : decode cX1_numberStates 19 = .ok (.iconst 0, 1) := by decide +kernel
theorem dX1_numberStates_20 : decode cX1_numberStates 20 = .ok (.istore_n 1, 1) := by decide +kernel
theorem dX1_numberStates_21 : decode cX1_numberStates 21 = .ok (.iload_n 1, 1) := by decide +kernel
theorem dX1_numberStates_22 : decode cX1_numberStates 22 = .ok (.aload_n 0, 1) := by decide +kernel
theorem dX1_numberStates_23 : decode cX1_numberStates 23 = .ok (.getfield 106, 3) := by decide +kernel
theorem dX1_numberStates_26 : decode cX1_numberStates 26 = .ok (.if_icmp .ge 83, 3) := by decide +kernel
theorem dX1_numberStates_29 : decode cX1_numberStates 29 = .ok (.iload_n 1, 1) := by decide +kernel
theorem dX1_numberStates_30 : decode cX1_numberStates 30 = .ok (.bipush 64, 2) := by decide +kernel
theorem dX1_numberStates_32 : decode cX1_numberStates 32 = .ok (.if_icmp .ge 77, 3) := by decide +kernel
theorem dX1_numberStates_35 : decode cX1_numberStates 35 = .ok (.aload_n 0, 1) := by decide +kernel
theorem dX1_numberStates_36 : decode cX1_numberStates 36 = .ok (.getfield 34, 3) := by decide +kernel
theorem dX1_numberStates_39 : decode cX1_numberStates 39 = .ok (.iload_n 1, 1) := by decide +kernel
theorem dX1_numberStates_40 : decode cX1_numberStates 40 = .ok (.iaload, 1) := by decide +kernel
theorem dX1_numberStates_41 : decode cX1_numberStates 41 = .ok (.istore_n 2, 1) := by decide +kernel
theorem dX1_numberStates_42 : decode cX1_numberStates 42 = .ok (.iconst 0, 1) := by decide +kernel
theorem dX1_numberStates_43 : decode cX1_numberStates 43 = .ok (.istore_n 3, 1) := by decide +kernel
theorem dX1_numberStates_44 : decode cX1_numberStates 44 = .ok (.iload_n 3, 1) := by decide +kernel
theorem dX1_numberStates_45 : decode cX1_numberStates 45 = .ok (.iconst 5, 1) := by decide +kernel
theorem dX1_numberStates_46 : decode cX1_numberStates 46 = .ok (.if_icmp .ge 57, 3) := by decide +kernel
theorem dX1_numberStates_49 : decode cX1_numberStates 49 = .ok (.iload_n 2, 1) := by decide +kernel
theorem dX1_numberStates_50 : decode cX1_numberStates 50 = .ok (.invokestatic 54, 3) := by decide +kernel
theorem dX1_numberStates_53 : decode cX1_numberStates 53 = .ok (.ifCond .eq 50, 3) := by decide +kernel
theorem dX1_numberStates_56 : decode cX1_numberStates 56 = .ok (.aload_n 0, 1) := by decide +kernel
theorem dX1_numberStates_57 : decode cX1_numberStates 57 = .ok (.getfield 18, 3) := by decide +kernel
theorem dX1_numberStates_60 : decode cX1_numberStates 60 = .ok (.iload_n 2, 1) := by decide +kernel
theorem dX1_numberStates_61 : decode cX1_numberStates 61 = .ok (.iconst 5, 1) := by decide +kernel
theorem dX1_numberStates_62 : decode cX1_numberStates 62 = .ok (.imul, 1) := by decide +kernel
theorem dX1_numberStates_63 : decode cX1_numberStates 63 = .ok (.iload_n 3, 1) := by decide +kernel
theorem dX1_numberStates_64 : decode cX1_numberStates 64 = .ok (.iadd, 1) := by decide +kernel
theorem dX1_numberStates_65 : decode cX1_numberStates 65 = .ok (.iaload, 1) := by decide +kernel
theorem dX1_numberStates_66 : decode cX1_numberStates 66 = .ok (.istore 4, 2) := by decide +kernel
theorem dX1_numberStates_68 : decode cX1_numberStates 68 = .ok (.aload_n 0, 1) := by decide +kernel
theorem dX1_numberStates_69 : decode cX1_numberStates 69 = .ok (.getfield 37, 3) := by decide +kernel
theorem dX1_numberStates_72 : decode cX1_numberStates 72 = .ok (.iload_n 1, 1) := by decide +kernel
theorem dX1_numberStates_73 : decode cX1_numberStates 73 = .ok (.iconst 5, 1) := by decide +kernel
theorem dX1_numberStates_74 : decode cX1_numberStates 74 = .ok (.imul, 1) := by decide +kernel
theorem dX1_numberStates_75 : decode cX1_numberStates 75 = .ok (.iload_n 3, 1) := by decide +kernel
theorem dX1_numberStates_76 : decode cX1_numberStates 76 = .ok (.iadd, 1) := by decide +kernel
theorem dX1_numberStates_77 : decode cX1_numberStates 77 = .ok (.iload 4, 2) := by decide +kernel
theorem dX1_numberStates_79 : decode cX1_numberStates 79 = .ok (.invokestatic 54, 3) := by decide +kernel
theorem dX1_numberStates_82 : decode cX1_numberStates 82 = .ok (.ifCond .eq 12, 3) := by decide +kernel
theorem dX1_numberStates_85 : decode cX1_numberStates 85 = .ok (.aload_n 0, 1) := by decide +kernel
theorem dX1_numberStates_86 : decode cX1_numberStates 86 = .ok (.iload 4, 2) := by decide +kernel
theorem dX1_numberStates_88 : decode cX1_numberStates 88 = .ok (.invokevirtual 109, 3) := by decide +kernel
theorem dX1_numberStates_91 : decode cX1_numberStates 91 = .ok (.goto 5, 3) := by decide +kernel
theorem dX1_numberStates_94 : decode cX1_numberStates 94 = .ok (.bipush (-5), 2) := by decide +kernel
theorem dX1_numberStates_96 : decode cX1_numberStates 96 = .ok (.iastore, 1) := by decide +kernel
theorem dX1_numberStates_97 : decode cX1_numberStates 97 = .ok (.iinc 3 1, 3) := by decide +kernel
theorem dX1_numberStates_100 : decode cX1_numberStates 100 = .ok (.goto (-56), 3) := by decide +kernel
theorem dX1_numberStates_103 : decode cX1_numberStates 103 = .ok (.iinc 1 1, 3) := by decide +kernel
theorem dX1_numberStates_106 : decode cX1_numberStates 106 = .ok (.goto (-85), 3) := by decide +kernel
theorem dX1_numberStates_109 : decode cX1_numberStates 109 = .ok (.return_, 1) := by decide +kernel
theorem dX1_stateOf_0 : decode cX1_stateOf 0 = .ok (.iload_n 1, 1) := by decide +kernel
theorem dX1_stateOf_1 : decode cX1_stateOf 1 = .ok (.invokestatic 54, 3) := by decide +kernel
theorem dX1_stateOf_4 : decode cX1_stateOf 4 = .ok (.ifCond .eq 12, 3) := by decide +kernel
theorem dX1_stateOf_7 : decode cX1_stateOf 7 = .ok (.aload_n 0, 1) := by decide +kernel
theorem dX1_stateOf_8 : decode cX1_stateOf 8 = .ok (.getfield 22, 3) := by decide +kernel
theorem dX1_stateOf_11 : decode cX1_stateOf 11 = .ok (.iload_n 1, 1) := by decide +kernel
theorem dX1_stateOf_12 : decode cX1_stateOf 12 = .ok (.iaload, 1) := by decide +kernel
theorem dX1_stateOf_13 : decode cX1_stateOf 13 = .ok (.goto 4, 3) := by decide +kernel
theorem dX1_stateOf_16 : decode cX1_stateOf 16 = .ok (.iconst 0, 1) := by decide +kernel
theorem dX1_stateOf_17 : decode cX1_stateOf 17 = .ok (.istore_n 2, 1) := by decide +kernel
theorem dX1_stateOf_18 : decode cX1_stateOf 18 = .ok (.iload_n 2, 1) := by decide +kernel
theorem dX1_stateOf_19 : decode cX1_stateOf 19 = .ok (.invokestatic 54, 3) := by decide +kernel
theorem dX1_stateOf_22 : decode cX1_stateOf 22 = .ok (.ifCond .ne 5, 3) := by decide +kernel
theorem dX1_stateOf_25 : decode cX1_stateOf 25 = .ok (.iconst 0, 1) := by decide +kernel
theorem dX1_stateOf_26 : decode cX1_stateOf 26 = .ok (.ireturn, 1) := by decide +kernel
theorem dX1_stateOf_27 : decode cX1_stateOf 27 = .ok (.aload_n 0, 1) := by decide +kernel
theorem dX1_stateOf_28 : decode cX1_stateOf 28 = .ok (.getfield 31, 3) := by decide +kernel
theorem dX1_stateOf_31 : decode cX1_stateOf 31 = .ok (.iload_n 2, 1) := by decide +kernel
theorem dX1_stateOf_32 : decode cX1_stateOf 32 = .ok (.iaload, 1) := by decide +kernel
theorem dX1_stateOf_33 : decode cX1_stateOf 33 = .ok (.ifCond .ge 42, 3) := by decide +kernel
theorem dX1_stateOf_36 : decode cX1_stateOf 36 = .ok (.aload_n 0, 1) := by decide +kernel
theorem dX1_stateOf_37 : decode cX1_stateOf 37 = .ok (.getfield 106, 3) := by decide +kernel
theorem dX1_stateOf_40 : decode cX1_stateOf 40 = .ok (.bipush 64, 2) := by decide +kernel
theorem dX1_stateOf_42 : decode cX1_stateOf 42 = .ok (.if_icmp .ge 33, 3) := by decide +kernel
theorem dX1_stateOf_45 : decode cX1_stateOf 45 = .ok (.aload_n 0, 1) := by decide +kernel
theorem dX1_stateOf_46 : decode cX1_stateOf 46 = .ok (.getfield 31, 3) := by decide +kernel
theorem dX1_stateOf_49 : decode cX1_stateOf 49 = .ok (.iload_n 2, 1) := by decide +kernel
theorem dX1_stateOf_50 : decode cX1_stateOf 50 = .ok (.aload_n 0, 1) := by decide +kernel
theorem dX1_stateOf_51 : decode cX1_stateOf 51 = .ok (.getfield 106, 3) := by decide +kernel
theorem dX1_stateOf_54 : decode cX1_stateOf 54 = .ok (.iastore, 1) := by decide +kernel
theorem dX1_stateOf_55 : decode cX1_stateOf 55 = .ok (.aload_n 0, 1) := by decide +kernel
theorem dX1_stateOf_56 : decode cX1_stateOf 56 = .ok (.getfield 34, 3) := by decide +kernel
theorem dX1_stateOf_59 : decode cX1_stateOf 59 = .ok (.aload_n 0, 1) := by decide +kernel
theorem dX1_stateOf_60 : decode cX1_stateOf 60 = .ok (.getfield 106, 3) := by decide +kernel
theorem dX1_stateOf_63 : decode cX1_stateOf 63 = .ok (.iload_n 1, 1) := by decide +kernel
theorem dX1_stateOf_64 : decode cX1_stateOf 64 = .ok (.iastore, 1) := by decide +kernel
theorem dX1_stateOf_65 : decode cX1_stateOf 65 = .ok (.aload_n 0, 1) := by decide +kernel
theorem dX1_stateOf_66 : decode cX1_stateOf 66 = .ok (.dup, 1) := by decide +kernel
theorem dX1_stateOf_67 : decode cX1_stateOf 67 = .ok (.getfield 106, 3) := by decide +kernel
theorem dX1_stateOf_70 : decode cX1_stateOf 70 = .ok (.iconst 1, 1) := by decide +kernel
theorem dX1_stateOf_71 : decode cX1_stateOf 71 = .ok (.iadd, 1) := by decide +kernel
theorem dX1_stateOf_72 : decode cX1_stateOf 72 = .ok (.putfield 106, 3) := by decide +kernel
theorem dX1_stateOf_75 : decode cX1_stateOf 75 = .ok (.aload_n 0, 1) := by decide +kernel
theorem dX1_stateOf_76 : decode cX1_stateOf 76 = .ok (.getfield 31, 3) := by decide +kernel
theorem dX1_stateOf_79 : decode cX1_stateOf 79 = .ok (.iload_n 2, 1) := by decide +kernel
theorem dX1_stateOf_80 : decode cX1_stateOf 80 = .ok (.iaload, 1) := by decide +kernel
theorem dX1_stateOf_81 : decode cX1_stateOf 81 = .ok (.ireturn, 1) := by decide +kernel
theorem dX1_measure_0 : decode cX1_measure 0 = .ok (.aload_n 0, 1) := by decide +kernel
theorem dX1_measure_1 : decode cX1_measure 1 = .ok (.getfield 40, 3) := by decide +kernel
theorem dX1_measure_4 : decode cX1_measure 4 = .ok (.bipush (-9), 2) := by decide +kernel
theorem dX1_measure_6 : decode cX1_measure 6 = .ok (.invokestatic 78, 3) := by decide +kernel
theorem dX1_measure_9 : decode cX1_measure 9 = .ok (.iconst 1, 1) := by decide +kernel
theorem dX1_measure_10 : decode cX1_measure 10 = .ok (.istore_n 1, 1) := by decide +kernel
theorem dX1_measure_11 : decode cX1_measure 11 = .ok (.iconst 1, 1) := by decide +kernel
theorem dX1_measure_12 : decode cX1_measure 12 = .ok (.istore_n 2, 1) := by decide +kernel
theorem dX1_measure_13 : decode cX1_measure 13 = .ok (.iload_n 2, 1) := by decide +kernel
theorem dX1_measure_14 : decode cX1_measure 14 = .ok (.bipush 64, 2) := by decide +kernel
theorem dX1_measure_16 : decode cX1_measure 16 = .ok (.if_icmp .gt 70, 3) := by decide +kernel
theorem dX1_measure_19 : decode cX1_measure 19 = .ok (.iload_n 1, 1) := by decide +kernel
theorem dX1_measure_20 : decode cX1_measure 20 = .ok (.ifCond .eq 66, 3) := by decide +kernel
theorem dX1_measure_23 : decode cX1_measure 23 = .ok (.iconst 0, 1) := by decide +kernel
theorem dX1_measure_24 : decode cX1_measure 24 = .ok (.istore_n 1, 1) := by decide +kernel
theorem dX1_measure_25 : decode cX1_measure 25 = .ok (.iconst 0, 1) := by decide +kernel
theorem dX1_measure_26 : decode cX1_measure 26 = .ok (.istore_n 3, 1) := by decide +kernel
theorem dX1_measure_27 : decode cX1_measure 27 = .ok (.iload_n 3, 1) := by decide +kernel
theorem dX1_measure_28 : decode cX1_measure 28 = .ok (.aload_n 0, 1) := by decide +kernel
theorem dX1_measure_29 : decode cX1_measure 29 = .ok (.getfield 106, 3) := by decide +kernel
theorem dX1_measure_32 : decode cX1_measure 32 = .ok (.if_icmp .ge 48, 3) := by decide +kernel
theorem dX1_measure_35 : decode cX1_measure 35 = .ok (.iload_n 3, 1) := by decide +kernel
theorem dX1_measure_36 : decode cX1_measure 36 = .ok (.bipush 64, 2) := by decide +kernel
theorem dX1_measure_38 : decode cX1_measure 38 = .ok (.if_icmp .ge 42, 3) := by decide +kernel
theorem dX1_measure_41 : decode cX1_measure 41 = .ok (.aload_n 0, 1) := by decide +kernel
theorem dX1_measure_42 : decode cX1_measure 42 = .ok (.getfield 40, 3) := by decide +kernel
theorem dX1_measure_45 : decode cX1_measure 45 = .ok (.iload_n 3, 1) := by decide +kernel
theorem dX1_measure_46 : decode cX1_measure 46 = .ok (.iaload, 1) := by decide +kernel
theorem dX1_measure_47 : decode cX1_measure 47 = .ok (.bipush (-9), 2) := by decide +kernel
theorem dX1_measure_49 : decode cX1_measure 49 = .ok (.if_icmp .ne 25, 3) := by decide +kernel
theorem dX1_measure_52 : decode cX1_measure 52 = .ok (.aload_n 0, 1) := by decide +kernel
theorem dX1_measure_53 : decode cX1_measure 53 = .ok (.iload_n 3, 1) := by decide +kernel
theorem dX1_measure_54 : decode cX1_measure 54 = .ok (.iload_n 2, 1) := by decide +kernel
theorem dX1_measure_55 : decode cX1_measure 55 = .ok (.iconst 1, 1) := by decide +kernel
theorem dX1_measure_56 : decode cX1_measure 56 = .ok (.isub, 1) := by decide +kernel
theorem dX1_measure_57 : decode cX1_measure 57 = .ok (.invokevirtual 112, 3) := by decide +kernel
theorem dX1_measure_60 : decode cX1_measure 60 = .ok (.bipush (-9), 2) := by decide +kernel
theorem dX1_measure_62 : decode cX1_measure 62 = .ok (.if_icmp .eq 12, 3) := by decide +kernel
theorem dX1_measure_65 : decode cX1_measure 65 = .ok (.aload_n 0, 1) := by decide +kernel
theorem dX1_measure_66 : decode cX1_measure 66 = .ok (.getfield 40, 3) := by decide +kernel
theorem dX1_measure_69 : decode cX1_measure 69 = .ok (.iload_n 3, 1) := by decide +kernel
theorem dX1_measure_70 : decode cX1_measure 70 = .ok (.iload_n 2, 1) := by decide +kernel
theorem dX1_measure_71 : decode cX1_measure 71 = .ok (.iastore, 1) := by decide +kernel
theorem dX1_measure_72 : decode cX1_measure 72 = .ok (.iconst 1, 1) := by decide +kernel
theorem dX1_measure_73 : decode cX1_measure 73 = .ok (.istore_n 1, 1) := by decide +kernel
theorem dX1_measure_74 : decode cX1_measure 74 = .ok (.iinc 3 1, 3) := by decide +kernel
theorem dX1_measure_77 : decode cX1_measure 77 = .ok (.goto (-50), 3) := by decide +kernel
theorem dX1_measure_80 : decode cX1_measure 80 = .ok (.iinc 2 1, 3) := by decide +kernel
theorem dX1_measure_83 : decode cX1_measure 83 = .ok (.goto (-70), 3) := by decide +kernel
theorem dX1_measure_86 : decode cX1_measure 86 = .ok (.return_, 1) := by decide +kernel
theorem dX1_signTo_0 : decode cX1_signTo 0 = .ok (.iconst 0, 1) := by decide +kernel
theorem dX1_signTo_1 : decode cX1_signTo 1 = .ok (.istore_n 3, 1) := by decide +kernel
theorem dX1_signTo_2 : decode cX1_signTo 2 = .ok (.iload_n 3, 1) := by decide +kernel
theorem dX1_signTo_3 : decode cX1_signTo 3 = .ok (.iconst 5, 1) := by decide +kernel
theorem dX1_signTo_4 : decode cX1_signTo 4 = .ok (.if_icmp .ge 57, 3) := by decide +kernel
theorem dX1_signTo_7 : decode cX1_signTo 7 = .ok (.iload_n 1, 1) := by decide +kernel
theorem dX1_signTo_8 : decode cX1_signTo 8 = .ok (.invokestatic 54, 3) := by decide +kernel
theorem dX1_signTo_11 : decode cX1_signTo 11 = .ok (.ifCond .eq 50, 3) := by decide +kernel
theorem dX1_signTo_14 : decode cX1_signTo 14 = .ok (.aload_n 0, 1) := by decide +kernel
theorem dX1_signTo_15 : decode cX1_signTo 15 = .ok (.getfield 37, 3) := by decide +kernel
theorem dX1_signTo_18 : decode cX1_signTo 18 = .ok (.iload_n 1, 1) := by decide +kernel
theorem dX1_signTo_19 : decode cX1_signTo 19 = .ok (.iconst 5, 1) := by decide +kernel
theorem dX1_signTo_20 : decode cX1_signTo 20 = .ok (.imul, 1) := by decide +kernel
theorem dX1_signTo_21 : decode cX1_signTo 21 = .ok (.iload_n 3, 1) := by decide +kernel
theorem dX1_signTo_22 : decode cX1_signTo 22 = .ok (.iadd, 1) := by decide +kernel
theorem dX1_signTo_23 : decode cX1_signTo 23 = .ok (.iaload, 1) := by decide +kernel
theorem dX1_signTo_24 : decode cX1_signTo 24 = .ok (.istore 4, 2) := by decide +kernel
theorem dX1_signTo_26 : decode cX1_signTo 26 = .ok (.iload 4, 2) := by decide +kernel
theorem dX1_signTo_28 : decode cX1_signTo 28 = .ok (.invokestatic 54, 3) := by decide +kernel
theorem dX1_signTo_31 : decode cX1_signTo 31 = .ok (.ifCond .eq 13, 3) := by decide +kernel
theorem dX1_signTo_34 : decode cX1_signTo 34 = .ok (.aload_n 0, 1) := by decide +kernel
theorem dX1_signTo_35 : decode cX1_signTo 35 = .ok (.getfield 40, 3) := by decide +kernel
theorem dX1_signTo_38 : decode cX1_signTo 38 = .ok (.iload 4, 2) := by decide +kernel
theorem dX1_signTo_40 : decode cX1_signTo 40 = .ok (.iaload, 1) := by decide +kernel
theorem dX1_signTo_41 : decode cX1_signTo 41 = .ok (.goto 4, 3) := by decide +kernel
theorem dX1_signTo_44 : decode cX1_signTo 44 = .ok (.iconst 0, 1) := by decide +kernel
theorem dX1_signTo_45 : decode cX1_signTo 45 = .ok (.istore 5, 2) := by decide +kernel
theorem dX1_signTo_47 : decode cX1_signTo 47 = .ok (.iload 5, 2) := by decide +kernel
theorem dX1_signTo_49 : decode cX1_signTo 49 = .ok (.iload_n 2, 1) := by decide +kernel
theorem dX1_signTo_50 : decode cX1_signTo 50 = .ok (.if_icmp .ne 5, 3) := by decide +kernel
theorem dX1_signTo_53 : decode cX1_signTo 53 = .ok (.iload_n 3, 1) := by decide +kernel
theorem dX1_signTo_54 : decode cX1_signTo 54 = .ok (.ireturn, 1) := by decide +kernel
theorem dX1_signTo_55 : decode cX1_signTo 55 = .ok (.iinc 3 1, 3) := by decide +kernel
theorem dX1_signTo_58 : decode cX1_signTo 58 = .ok (.goto (-56), 3) := by decide +kernel
theorem dX1_signTo_61 : decode cX1_signTo 61 = .ok (.bipush (-9), 2) := by decide +kernel
theorem dX1_signTo_63 : decode cX1_signTo 63 = .ok (.ireturn, 1) := by decide +kernel
theorem dX1_signTowardsAlarm_0 : decode cX1_signTowardsAlarm 0 = .ok (.iload_n 1, 1) := by decide +kernel
theorem dX1_signTowardsAlarm_1 : decode cX1_signTowardsAlarm 1 = .ok (.istore_n 3, 1) := by decide +kernel
theorem dX1_signTowardsAlarm_2 : decode cX1_signTowardsAlarm 2 = .ok (.bipush (-9), 2) := by decide +kernel
theorem dX1_signTowardsAlarm_4 : decode cX1_signTowardsAlarm 4 = .ok (.istore 4, 2) := by decide +kernel
theorem dX1_signTowardsAlarm_6 : decode cX1_signTowardsAlarm 6 = .ok (.iconst 0, 1) := by decide +kernel
theorem dX1_signTowardsAlarm_7 : decode cX1_signTowardsAlarm 7 = .ok (.istore 5, 2) := by decide +kernel
theorem dX1_signTowardsAlarm_9 : decode cX1_signTowardsAlarm 9 = .ok (.iload 5, 2) := by decide +kernel
theorem dX1_signTowardsAlarm_11 : decode cX1_signTowardsAlarm 11 = .ok (.iload_n 2, 1) := by decide +kernel
theorem dX1_signTowardsAlarm_12 : decode cX1_signTowardsAlarm 12 = .ok (.if_icmp .gt 60, 3) := by decide +kernel
theorem dX1_signTowardsAlarm_15 : decode cX1_signTowardsAlarm 15 = .ok (.iload 5, 2) := by decide +kernel
theorem dX1_signTowardsAlarm_17 : decode cX1_signTowardsAlarm 17 = .ok (.bipush 64, 2) := by decide +kernel
theorem dX1_signTowardsAlarm_19 : decode cX1_signTowardsAlarm 19 = .ok (.if_icmp .ge 53, 3) := by decide +kernel
theorem dX1_signTowardsAlarm_22 : decode cX1_signTowardsAlarm 22 = .ok (.aload_n 0, 1) := by decide +kernel
theorem dX1_signTowardsAlarm_23 : decode cX1_signTowardsAlarm 23 = .ok (.iload_n 3, 1) := by decide +kernel
theorem dX1_signTowardsAlarm_24 : decode cX1_signTowardsAlarm 24 = .ok (.aload_n 0, 1) := by decide +kernel
theorem dX1_signTowardsAlarm_25 : decode cX1_signTowardsAlarm 25 = .ok (.iload_n 3, 1) := by decide +kernel
theorem dX1_signTowardsAlarm_26 : decode cX1_signTowardsAlarm 26 = .ok (.invokevirtual 115, 3) := by decide +kernel
theorem dX1_signTowardsAlarm_29 : decode cX1_signTowardsAlarm 29 = .ok (.iconst 1, 1) := by decide +kernel
theorem dX1_signTowardsAlarm_30 : decode cX1_signTowardsAlarm 30 = .ok (.isub, 1) := by decide +kernel
theorem dX1_signTowardsAlarm_31 : decode cX1_signTowardsAlarm 31 = .ok (.invokevirtual 112, 3) := by decide +kernel
theorem dX1_signTowardsAlarm_34 : decode cX1_signTowardsAlarm 34 = .ok (.istore 4, 2) := by decide +kernel
theorem dX1_signTowardsAlarm_36 : decode cX1_signTowardsAlarm 36 = .ok (.iload_n 3, 1) := by decide +kernel
theorem dX1_signTowardsAlarm_37 : decode cX1_signTowardsAlarm 37 = .ok (.invokestatic 54, 3) := by decide +kernel
theorem dX1_signTowardsAlarm_40 : decode cX1_signTowardsAlarm 40 = .ok (.ifCond .eq 11, 3) := by decide +kernel
theorem dX1_signTowardsAlarm_43 : decode cX1_signTowardsAlarm 43 = .ok (.iload 4, 2) := by decide +kernel
theorem dX1_signTowardsAlarm_45 : decode cX1_signTowardsAlarm 45 = .ok (.invokestatic 118, 3) := by decide +kernel
theorem dX1_signTowardsAlarm_48 : decode cX1_signTowardsAlarm 48 = .ok (.ifCond .ne 6, 3) := by decide +kernel
theorem dX1_signTowardsAlarm_51 : decode cX1_signTowardsAlarm 51 = .ok (.bipush (-9), 2) := by decide +kernel
theorem dX1_signTowardsAlarm_53 : decode cX1_signTowardsAlarm 53 = .ok (.ireturn, 1) := by decide +kernel
theorem dX1_signTowardsAlarm_54 : decode cX1_signTowardsAlarm 54 = .ok (.aload_n 0, 1) := by decide +kernel
theorem dX1_signTowardsAlarm_55 : decode cX1_signTowardsAlarm 55 = .ok (.getfield 37, 3) := by decide +kernel
theorem dX1_signTowardsAlarm_58 : decode cX1_signTowardsAlarm 58 = .ok (.iload_n 3, 1) := by decide +kernel
theorem dX1_signTowardsAlarm_59 : decode cX1_signTowardsAlarm 59 = .ok (.iconst 5, 1) := by decide +kernel
theorem dX1_signTowardsAlarm_60 : decode cX1_signTowardsAlarm 60 = .ok (.imul, 1) := by decide +kernel
theorem dX1_signTowardsAlarm_61 : decode cX1_signTowardsAlarm 61 = .ok (.iload 4, 2) := by decide +kernel
theorem dX1_signTowardsAlarm_63 : decode cX1_signTowardsAlarm 63 = .ok (.iadd, 1) := by decide +kernel
theorem dX1_signTowardsAlarm_64 : decode cX1_signTowardsAlarm 64 = .ok (.iaload, 1) := by decide +kernel
theorem dX1_signTowardsAlarm_65 : decode cX1_signTowardsAlarm 65 = .ok (.istore_n 3, 1) := by decide +kernel
theorem dX1_signTowardsAlarm_66 : decode cX1_signTowardsAlarm 66 = .ok (.iinc 5 1, 3) := by decide +kernel
theorem dX1_signTowardsAlarm_69 : decode cX1_signTowardsAlarm 69 = .ok (.goto (-60), 3) := by decide +kernel
theorem dX1_signTowardsAlarm_72 : decode cX1_signTowardsAlarm 72 = .ok (.iload 4, 2) := by decide +kernel
theorem dX1_signTowardsAlarm_74 : decode cX1_signTowardsAlarm 74 = .ok (.ireturn, 1) := by decide +kernel
theorem dX2_init_0 : decode cX2_init 0 = .ok (.aload_n 0, 1) := by decide +kernel
theorem dX2_init_1 : decode cX2_init 1 = .ok (.invokespecial 3, 3) := by decide +kernel
theorem dX2_init_4 : decode cX2_init 4 = .ok (.aload_n 0, 1) := by decide +kernel
theorem dX2_init_5 : decode cX2_init 5 = .ok (.new 9, 3) := by decide +kernel
theorem dX2_init_8 : decode cX2_init 8 = .ok (.dup, 1) := by decide +kernel
theorem dX2_init_9 : decode cX2_init 9 = .ok (.invokespecial 11, 3) := by decide +kernel
theorem dX2_init_12 : decode cX2_init 12 = .ok (.putfield 12, 3) := by decide +kernel
theorem dX2_init_15 : decode cX2_init 15 = .ok (.aload_n 0, 1) := by decide +kernel
theorem dX2_init_16 : decode cX2_init 16 = .ok (.iconst 0, 1) := by decide +kernel
theorem dX2_init_17 : decode cX2_init 17 = .ok (.putfield 18, 3) := by decide +kernel
theorem dX2_init_20 : decode cX2_init 20 = .ok (.aload_n 0, 1) := by decide +kernel
theorem dX2_init_21 : decode cX2_init 21 = .ok (.bipush 64, 2) := by decide +kernel
theorem dX2_init_23 : decode cX2_init 23 = .ok (.bipush 65, 2) := by decide +kernel
theorem dX2_init_25 : decode cX2_init 25 = .ok (.multianewarray 22 2, 4) := by decide +kernel
theorem dX2_init_29 : decode cX2_init 29 = .ok (.putfield 24, 3) := by decide +kernel
theorem dX2_init_32 : decode cX2_init 32 = .ok (.aload_n 0, 1) := by decide +kernel
theorem dX2_init_33 : decode cX2_init 33 = .ok (.bipush 65, 2) := by decide +kernel
theorem dX2_init_35 : decode cX2_init 35 = .ok (.newarray .int, 2) := by decide +kernel
theorem dX2_init_37 : decode cX2_init 37 = .ok (.putfield 27, 3) := by decide +kernel
theorem dX2_init_40 : decode cX2_init 40 = .ok (.aload_n 0, 1) := by decide +kernel
theorem dX2_init_41 : decode cX2_init 41 = .ok (.bipush 64, 2) := by decide +kernel
theorem dX2_init_43 : decode cX2_init 43 = .ok (.newarray .int, 2) := by decide +kernel
theorem dX2_init_45 : decode cX2_init 45 = .ok (.putfield 31, 3) := by decide +kernel
theorem dX2_init_48 : decode cX2_init 48 = .ok (.aload_n 0, 1) := by decide +kernel
theorem dX2_init_49 : decode cX2_init 49 = .ok (.iconst 0, 1) := by decide +kernel
theorem dX2_init_50 : decode cX2_init 50 = .ok (.putfield 34, 3) := by decide +kernel
theorem dX2_init_53 : decode cX2_init 53 = .ok (.return_, 1) := by decide +kernel
theorem dX2_fit_0 : decode cX2_fit 0 = .ok (.aload_n 0, 1) := by decide +kernel
theorem dX2_fit_1 : decode cX2_fit 1 = .ok (.getfield 18, 3) := by decide +kernel
theorem dX2_fit_4 : decode cX2_fit 4 = .ok (.ifCond .eq 26, 3) := by decide +kernel
theorem dX2_fit_7 : decode cX2_fit 7 = .ok (.aload_n 0, 1) := by decide +kernel
theorem dX2_fit_8 : decode cX2_fit 8 = .ok (.getfield 12, 3) := by decide +kernel
theorem dX2_fit_11 : decode cX2_fit 11 = .ok (.aload_n 2, 1) := by decide +kernel
theorem dX2_fit_12 : decode cX2_fit 12 = .ok (.invokevirtual 37, 3) := by decide +kernel
theorem dX2_fit_15 : decode cX2_fit 15 = .ok (.ifCond .eq 15, 3) := by decide +kernel
theorem dX2_fit_18 : decode cX2_fit 18 = .ok (.aload_n 0, 1) := by decide +kernel
theorem dX2_fit_19 : decode cX2_fit 19 = .ok (.getfield 12, 3) := by decide +kernel
theorem dX2_fit_22 : decode cX2_fit 22 = .ok (.aload_n 2, 1) := by decide +kernel
theorem dX2_fit_23 : decode cX2_fit 23 = .ok (.invokevirtual 41, 3) := by decide +kernel
theorem dX2_fit_26 : decode cX2_fit 26 = .ok (.ifCond .eq 4, 3) := by decide +kernel
theorem dX2_fit_29 : decode cX2_fit 29 = .ok (.return_, 1) := by decide +kernel
theorem dX2_fit_30 : decode cX2_fit 30 = .ok (.aload_n 0, 1) := by decide +kernel
theorem dX2_fit_31 : decode cX2_fit 31 = .ok (.getfield 12, 3) := by decide +kernel
theorem dX2_fit_34 : decode cX2_fit 34 = .ok (.aload_n 2, 1) := by decide +kernel
theorem dX2_fit_35 : decode cX2_fit 35 = .ok (.invokevirtual 44, 3) := by decide +kernel
theorem dX2_fit_38 : decode cX2_fit 38 = .ok (.aload_n 0, 1) := by decide +kernel
theorem dX2_fit_39 : decode cX2_fit 39 = .ok (.iconst 1, 1) := by decide +kernel
theorem dX2_fit_40 : decode cX2_fit 40 = .ok (.putfield 18, 3) := by decide +kernel
theorem dX2_fit_43 : decode cX2_fit 43 = .ok (.aload_n 0, 1) := by decide +kernel
theorem dX2_fit_44 : decode cX2_fit 44 = .ok (.aload_n 1, 1) := by decide +kernel
theorem dX2_fit_45 : decode cX2_fit 45 = .ok (.invokevirtual 48, 3) := by decide +kernel
theorem dX2_fit_48 : decode cX2_fit 48 = .ok (.aload_n 0, 1) := by decide +kernel
theorem dX2_fit_49 : decode cX2_fit 49 = .ok (.aload_n 0, 1) := by decide +kernel
theorem dX2_fit_50 : decode cX2_fit 50 = .ok (.invokevirtual 52, 3) := by decide +kernel
theorem dX2_fit_53 : decode cX2_fit 53 = .ok (.putfield 34, 3) := by decide +kernel
theorem dX2_fit_56 : decode cX2_fit 56 = .ok (.aload_n 0, 1) := by decide +kernel
theorem dX2_fit_57 : decode cX2_fit 57 = .ok (.getfield 34, 3) := by decide +kernel
theorem dX2_fit_60 : decode cX2_fit 60 = .ok (.ifCond .eq 7, 3) := by decide +kernel
theorem dX2_fit_63 : decode cX2_fit 63 = .ok (.aload_n 0, 1) := by decide +kernel
theorem dX2_fit_64 : decode cX2_fit 64 = .ok (.invokevirtual 56, 3) := by decide +kernel
theorem dX2_fit_67 : decode cX2_fit 67 = .ok (.return_, 1) := by decide +kernel
theorem dX2_setUp_0 : decode cX2_setUp 0 = .ok (.aload_n 0, 1) := by decide +kernel
theorem dX2_setUp_1 : decode cX2_setUp 1 = .ok (.bipush 64, 2) := by decide +kernel
theorem dX2_setUp_3 : decode cX2_setUp 3 = .ok (.aload_n 1, 1) := by decide +kernel
theorem dX2_setUp_4 : decode cX2_setUp 4 = .ok (.getfield 59, 3) := by decide +kernel
theorem dX2_setUp_7 : decode cX2_setUp 7 = .ok (.invokestatic 65, 3) := by decide +kernel
theorem dX2_setUp_10 : decode cX2_setUp 10 = .ok (.putfield 71, 3) := by decide +kernel
theorem dX2_setUp_13 : decode cX2_setUp 13 = .ok (.iconst 0, 1) := by decide +kernel
theorem dX2_setUp_14 : decode cX2_setUp 14 = .ok (.istore_n 2, 1) := by decide +kernel
theorem dX2_setUp_15 : decode cX2_setUp 15 = .ok (.iload_n 2, 1) := by decide +kernel
theorem dX2_setUp_16 : decode cX2_setUp 16 = .ok (.aload_n 0, 1) := by decide +kernel
theorem dX2_setUp_17 : decode cX2_setUp 17 = .ok (.getfield 71, 3) := by decide +kernel
theorem dX2_setUp_20 : decode cX2_setUp 20 = .ok (.if_icmp .ge 94, 3) := by decide +kernel
theorem dX2_setUp_23 : decode cX2_setUp 23 = .ok (.aload_n 0, 1) := by decide +kernel
theorem dX2_setUp_24 : decode cX2_setUp 24 = .ok (.getfield 24, 3) := by decide +kernel
theorem dX2_setUp_27 : decode cX2_setUp 27 = .ok (.iload_n 2, 1) := by decide +kernel
theorem dX2_setUp_28 : decode cX2_setUp 28 = .ok (.aaload, 1) := by decide +kernel
theorem dX2_setUp_29 : decode cX2_setUp 29 = .ok (.astore_n 3, 1) := by decide +kernel
theorem dX2_setUp_30 : decode cX2_setUp 30 = .ok (.aload_n 3, 1) := by decide +kernel
theorem dX2_setUp_31 : decode cX2_setUp 31 = .ok (.iconst 0, 1) := by decide +kernel
theorem dX2_setUp_32 : decode cX2_setUp 32 = .ok (.invokestatic 74, 3) := by decide +kernel
theorem dX2_setUp_35 : decode cX2_setUp 35 = .ok (.aload_n 3, 1) := by decide +kernel
theorem dX2_setUp_36 : decode cX2_setUp 36 = .ok (.iload_n 2, 1) := by decide +kernel
theorem dX2_setUp_37 : decode cX2_setUp 37 = .ok (.bipush 10, 2) := by decide +kernel
theorem dX2_setUp_39 : decode cX2_setUp 39 = .ok (.iastore, 1) := by decide +kernel
theorem dX2_setUp_40 : decode cX2_setUp 40 = .ok (.aload_n 3, 1) := by decide +kernel
theorem dX2_setUp_41 : decode cX2_setUp 41 = .ok (.aload_n 0, 1) := by decide +kernel
theorem dX2_setUp_42 : decode cX2_setUp 42 = .ok (.getfield 71, 3) := by decide +kernel
theorem dX2_setUp_45 : decode cX2_setUp 45 = .ok (.bipush 10, 2) := by decide +kernel
theorem dX2_setUp_47 : decode cX2_setUp 47 = .ok (.iastore, 1) := by decide +kernel
theorem dX2_setUp_48 : decode cX2_setUp 48 = .ok (.iconst 0, 1) := by decide +kernel
theorem dX2_setUp_49 : decode cX2_setUp 49 = .ok (.istore 4, 2) := by decide +kernel
theorem dX2_setUp_51 : decode cX2_setUp 51 = .ok (.iload 4, 2) := by decide +kernel
theorem dX2_setUp_53 : decode cX2_setUp 53 = .ok (.iconst 5, 1) := by decide +kernel
theorem dX2_setUp_54 : decode cX2_setUp 54 = .ok (.if_icmp .ge 54, 3) := by decide +kernel
theorem dX2_setUp_57 : decode cX2_setUp 57 = .ok (.aload_n 1, 1) := by decide +kernel
theorem dX2_setUp_58 : decode cX2_setUp 58 = .ok (.getfield 80, 3) := by decide +kernel
theorem dX2_setUp_61 : decode cX2_setUp 61 = .ok (.iload_n 2, 1) := by decide +kernel
theorem dX2_setUp_62 : decode cX2_setUp 62 = .ok (.iconst 5, 1) := by decide +kernel
theorem dX2_setUp_63 : decode cX2_setUp 63 = .ok (.imul, 1) := by decide +kernel
theorem dX2_setUp_64 : decode cX2_setUp 64 = .ok (.iload 4, 2) := by decide +kernel
theorem dX2_setUp_66 : decode cX2_setUp 66 = .ok (.iadd, 1) := by decide +kernel
theorem dX2_setUp_67 : decode cX2_setUp 67 = .ok (.iaload, 1) := by decide +kernel
theorem dX2_setUp_68 : decode cX2_setUp 68 = .ok (.istore 5, 2) := by decide +kernel
theorem dX2_setUp_70 : decode cX2_setUp 70 = .ok (.iload 5, 2) := by decide +kernel
theorem dX2_setUp_72 : decode cX2_setUp 72 = .ok (.invokestatic 83, 3) := by decide +kernel
theorem dX2_setUp_75 : decode cX2_setUp 75 = .ok (.ifCond .eq 27, 3) := by decide +kernel
theorem dX2_setUp_78 : decode cX2_setUp 78 = .ok (.aload_n 3, 1) := by decide +kernel
theorem dX2_setUp_79 : decode cX2_setUp 79 = .ok (.iload 5, 2) := by decide +kernel
theorem dX2_setUp_81 : decode cX2_setUp 81 = .ok (.aload_n 3, 1) := by decide +kernel
theorem dX2_setUp_82 : decode cX2_setUp 82 = .ok (.iload 5, 2) := by decide +kernel
theorem dX2_setUp_84 : decode cX2_setUp 84 = .ok (.iaload, 1) := by decide +kernel
theorem dX2_setUp_85 : decode cX2_setUp 85 = .ok (.aload_n 0, 1) := by decide +kernel
theorem dX2_setUp_86 : decode cX2_setUp 86 = .ok (.getfield 12, 3) := by decide +kernel
theorem dX2_setUp_89 : decode cX2_setUp 89 = .ok (.getfield 87, 3) := by decide +kernel
theorem dX2_setUp_92 : decode cX2_setUp 92 = .ok (.iload 4, 2) := by decide +kernel
theorem dX2_setUp_94 : decode cX2_setUp 94 = .ok (.iaload, 1) := by decide +kernel
theorem dX2_setUp_95 : decode cX2_setUp 95 = .ok (.isub, 1) := by decide +kernel
theorem dX2_setUp_96 : decode cX2_setUp 96 = .ok (.ldc 90, 2) := by decide +kernel
theorem dX2_setUp_98 : decode cX2_setUp 98 = .ok (.invokestatic 91, 3) := by decide +kernel
theorem dX2_setUp_101 : decode cX2_setUp 101 = .ok (.iastore, 1) := by decide +kernel
theorem dX2_setUp_102 : decode cX2_setUp 102 = .ok (.iinc 4 1, 3) := by decide +kernel
theorem dX2_setUp_105 : decode cX2_setUp 105 = .ok (.goto (-54), 3) := by decide +kernel
theorem dX2_setUp_108 : decode cX2_setUp 108 = .ok (.iinc 2 1, 3) := by decide +kernel
theorem dX2_setUp_111 : decode cX2_setUp 111 = .ok (.goto (-96), 3) := by decide +kernel
theorem dX2_setUp_114 : decode cX2_setUp 114 = .ok (.return_, 1) := by decide +kernel
theorem dX2_eliminate_0 : decode cX2_eliminate 0 = .ok (.aload_n 0, 1) := by decide +kernel
theorem dX2_eliminate_1 : decode cX2_eliminate 1 = .ok (.getfield 71, 3) := by decide +kernel
theorem dX2_eliminate_4 : decode cX2_eliminate 4 = .ok (.iconst 1, 1) := by decide +kernel
theorem dX2_eliminate_5 : decode cX2_eliminate 5 = .ok (.isub, 1) := by decide +kernel
theorem dX2_eliminate_6 : decode cX2_eliminate 6 = .ok (.istore_n 1, 1) := by decide +kernel
theorem dX2_eliminate_7 : decode cX2_eliminate 7 = .ok (.iload_n 1, 1) := by decide +kernel
theorem dX2_eliminate_8 : decode cX2_eliminate 8 = .ok (.ifCond .lt 56, 3) := by decide +kernel
theorem dX2_eliminate_11 : decode cX2_eliminate 11 = .ok (.aload_n 0, 1) := by decide +kernel
theorem dX2_eliminate_12 : decode cX2_eliminate 12 = .ok (.iload_n 1, 1) := by decide +kernel
theorem dX2_eliminate_13 : decode cX2_eliminate 13 = .ok (.invokevirtual 94, 3) := by decide +kernel
theorem dX2_eliminate_16 : decode cX2_eliminate 16 = .ok (.ifCond .ne 5, 3) := by decide +kernel
theorem dX2_eliminate_19 : decode cX2_eliminate 19 = .ok (.iconst 0, 1) := by decide +kernel
theorem dX2_eliminate_20 : decode cX2_eliminate 20 = .ok (.ireturn, 1) := by decide +kernel
theorem dX2_eliminate_21 : decode cX2_eliminate 21 = .ok (.aload_n 0, 1) := by decide +kernel
theorem dX2_eliminate_22 : decode cX2_eliminate 22 = .ok (.iload_n 1, 1) := by decide +kernel
theorem dX2_eliminate_23 : decode cX2_eliminate 23 = .ok (.invokevirtual 97, 3) := by decide +kernel
theorem dX2_eliminate_26 : decode cX2_eliminate 26 = .ok (.istore_n 2, 1) := by decide +kernel
theorem dX2_eliminate_27 : decode cX2_eliminate 27 = .ok (.iconst 0, 1) := by decide +kernel
theorem dX2_eliminate_28 : decode cX2_eliminate 28 = .ok (.istore_n 3, 1) := by decide +kernel
theorem dX2_eliminate_29 : decode cX2_eliminate 29 = .ok (.iload_n 3, 1) := by decide +kernel
theorem dX2_eliminate_30 : decode cX2_eliminate 30 = .ok (.iload_n 1, 1) := by decide +kernel
theorem dX2_eliminate_31 : decode cX2_eliminate 31 = .ok (.if_icmp .ge 27, 3) := by decide +kernel
theorem dX2_eliminate_34 : decode cX2_eliminate 34 = .ok (.aload_n 0, 1) := by decide +kernel
theorem dX2_eliminate_35 : decode cX2_eliminate 35 = .ok (.getfield 24, 3) := by decide +kernel
theorem dX2_eliminate_38 : decode cX2_eliminate 38 = .ok (.iload_n 3, 1) := by decide +kernel
theorem dX2_eliminate_39 : decode cX2_eliminate 39 = .ok (.aaload, 1) := by decide +kernel
theorem dX2_eliminate_40 : decode cX2_eliminate 40 = .ok (.iload_n 1, 1) := by decide +kernel
theorem dX2_eliminate_41 : decode cX2_eliminate 41 = .ok (.iaload, 1) := by decide +kernel
theorem dX2_eliminate_42 : decode cX2_eliminate 42 = .ok (.ifCond .eq 10, 3) := by decide +kernel
theorem dX2_eliminate_45 : decode cX2_eliminate 45 = .ok (.aload_n 0, 1) := by decide +kernel
theorem dX2_eliminate_46 : decode cX2_eliminate 46 = .ok (.iload_n 1, 1) := by decide +kernel
theorem dX2_eliminate_47 : decode cX2_eliminate 47 = .ok (.iload_n 3, 1) := by decide +kernel
theorem dX2_eliminate_48 : decode cX2_eliminate 48 = .ok (.iload_n 2, 1) := by decide +kernel
theorem dX2_eliminate_49 : decode cX2_eliminate 49 = .ok (.invokevirtual 101, 3) := by decide +kernel
theorem dX2_eliminate_52 : decode cX2_eliminate 52 = .ok (.iinc 3 1, 3) := by decide +kernel
theorem dX2_eliminate_55 : decode cX2_eliminate 55 = .ok (.goto (-26), 3) := by decide +kernel
theorem dX2_eliminate_58 : decode cX2_eliminate 58 = .ok (.iinc 1 (-1), 3) := by decide +kernel
theorem dX2_eliminate_61 : decode cX2_eliminate 61 = .ok (.goto (-54), 3) := by decide +kernel
theorem dX2_eliminate_64 : decode cX2_eliminate 64 = .ok (.iconst 1, 1) := by decide +kernel
theorem dX2_eliminate_65 : decode cX2_eliminate 65 = .ok (.ireturn, 1) := by decide +kernel
theorem dX2_bringUp_0 : decode cX2_bringUp 0 = .ok (.iload_n 1, 1) := by decide +kernel
theorem dX2_bringUp_1 : decode cX2_bringUp 1 = .ok (.istore_n 2, 1) := by decide +kernel
theorem dX2_bringUp_2 : decode cX2_bringUp 2 = .ok (.iload_n 2, 1) := by decide +kernel
theorem dX2_bringUp_3 : decode cX2_bringUp 3 = .ok (.ifCond .lt 48, 3) := by decide +kernel
theorem dX2_bringUp_6 : decode cX2_bringUp 6 = .ok (.aload_n 0, 1) := by decide +kernel
theorem dX2_bringUp_7 : decode cX2_bringUp 7 = .ok (.getfield 24, 3) := by decide +kernel
theorem dX2_bringUp_10 : decode cX2_bringUp 10 = .ok (.iload_n 2, 1) := by decide +kernel
theorem dX2_bringUp_11 : decode cX2_bringUp 11 = .ok (.aaload, 1) := by decide +kernel
theorem dX2_bringUp_12 : decode cX2_bringUp 12 = .ok (.iload_n 1, 1) := by decide +kernel
theorem dX2_bringUp_13 : decode cX2_bringUp 13 = .ok (.iaload, 1) := by decide +kernel
theorem dX2_bringUp_14 : decode cX2_bringUp 14 = .ok (.ifCond .eq 31, 3) := by decide +kernel
theorem dX2_bringUp_17 : decode cX2_bringUp 17 = .ok (.aload_n 0, 1) := by decide +kernel
theorem dX2_bringUp_18 : decode cX2_bringUp 18 = .ok (.getfield 24, 3) := by decide +kernel
theorem dX2_bringUp_21 : decode cX2_bringUp 21 = .ok (.iload_n 2, 1) := by decide +kernel
theorem dX2_bringUp_22 : decode cX2_bringUp 22 = .ok (.aaload, 1) := by decide +kernel
theorem dX2_bringUp_23 : decode cX2_bringUp 23 = .ok (.astore_n 3, 1) := by decide +kernel
theorem dX2_bringUp_24 : decode cX2_bringUp 24 = .ok (.aload_n 0, 1) := by decide +kernel
theorem dX2_bringUp_25 : decode cX2_bringUp 25 = .ok (.getfield 24, 3) := by decide +kernel
theorem dX2_bringUp_28 : decode cX2_bringUp 28 = .ok (.iload_n 2, 1) := by decide +kernel
theorem dX2_bringUp_29 : decode cX2_bringUp 29 = .ok (.aload_n 0, 1) := by decide +kernel
theorem dX2_bringUp_30 : decode cX2_bringUp 30 = .ok (.getfield 24, 3) := by decide +kernel
theorem dX2_bringUp_33 : decode cX2_bringUp 33 = .ok (.iload_n 1, 1) := by decide +kernel
theorem dX2_bringUp_34 : decode cX2_bringUp 34 = .ok (.aaload, 1) := by decide +kernel
theorem dX2_bringUp_35 : decode cX2_bringUp 35 = .ok (.aastore, 1) := by decide +kernel
theorem dX2_bringUp_36 : decode cX2_bringUp 36 = .ok (.aload_n 0, 1) := by decide +kernel
theorem dX2_bringUp_37 : decode cX2_bringUp 37 = .ok (.getfield 24, 3) := by decide +kernel
theorem dX2_bringUp_40 : decode cX2_bringUp 40 = .ok (.iload_n 1, 1) := by decide +kernel
theorem dX2_bringUp_41 : decode cX2_bringUp 41 = .ok (.aload_n 3, 1) := by decide +kernel
theorem dX2_bringUp_42 : decode cX2_bringUp 42 = .ok (.aastore, 1) := by decide +kernel
theorem dX2_bringUp_43 : decode cX2_bringUp 43 = .ok (.iconst 1, 1) := by decide +kernel
theorem dX2_bringUp_44 : decode cX2_bringUp 44 = .ok (.ireturn, 1) := by decide +kernel
theorem dX2_bringUp_45 : decode cX2_bringUp 45 = .ok (.iinc 2 (-1), 3) := by decide +kernel
theorem dX2_bringUp_48 : decode cX2_bringUp 48 = .ok (.goto (-46), 3) := by decide +kernel
theorem dX2_bringUp_51 : decode cX2_bringUp 51 = .ok (.iconst 0, 1) := by decide +kernel
theorem dX2_bringUp_52 : decode cX2_bringUp 52 = .ok (.ireturn, 1) := by decide +kernel
theorem dX2_makeOne_0 : decode cX2_makeOne 0 = .ok (.aload_n 0, 1) := by decide +kernel
theorem dX2_makeOne_1 : decode cX2_makeOne 1 = .ok (.getfield 24, 3) := by decide +kernel
theorem dX2_makeOne_4 : decode cX2_makeOne 4 = .ok (.iload_n 1, 1) := by decide +kernel
theorem dX2_makeOne_5 : decode cX2_makeOne 5 = .ok (.aaload, 1) := by decide +kernel
theorem dX2_makeOne_6 : decode cX2_makeOne 6 = .ok (.astore_n 2, 1) := by decide +kernel
theorem dX2_makeOne_7 : decode cX2_makeOne 7 = .ok (.aload_n 2, 1) := by decide +kernel
theorem dX2_makeOne_8 : decode cX2_makeOne 8 = .ok (.iload_n 1, 1) := by decide +kernel
theorem dX2_makeOne_9 : decode cX2_makeOne 9 = .ok (.iaload, 1) := by decide +kernel
theorem dX2_makeOne_10 : decode cX2_makeOne 10 = .ok (.invokestatic 105, 3) := by decide +kernel
theorem dX2_makeOne_13 : decode cX2_makeOne 13 = .ok (.lstore_n 3, 1) := by decide +kernel
theorem dX2_makeOne_14 : decode cX2_makeOne 14 = .ok (.iconst 0, 1) := by decide +kernel
theorem dX2_makeOne_15 : decode cX2_makeOne 15 = .ok (.istore 5, 2) := by decide +kernel
theorem dX2_makeOne_17 : decode cX2_makeOne 17 = .ok (.iconst 0, 1) := by decide +kernel
theorem dX2_makeOne_18 : decode cX2_makeOne 18 = .ok (.istore 6, 2) := by decide +kernel
theorem dX2_makeOne_20 : decode cX2_makeOne 20 = .ok (.iload 6, 2) := by decide +kernel
theorem dX2_makeOne_22 : decode cX2_makeOne 22 = .ok (.aload_n 0, 1) := by decide +kernel
theorem dX2_makeOne_23 : decode cX2_makeOne 23 = .ok (.getfield 71, 3) := by decide +kernel
theorem dX2_makeOne_26 : decode cX2_makeOne 26 = .ok (.if_icmp .gt 50, 3) := by decide +kernel
theorem dX2_makeOne_29 : decode cX2_makeOne 29 = .ok (.aload_n 2, 1) := by decide +kernel
theorem dX2_makeOne_30 : decode cX2_makeOne 30 = .ok (.iload 6, 2) := by decide +kernel
theorem dX2_makeOne_32 : decode cX2_makeOne 32 = .ok (.iaload, 1) := by decide +kernel
theorem dX2_makeOne_33 : decode cX2_makeOne 33 = .ok (.ifCond .eq 37, 3) := by decide +kernel
theorem dX2_makeOne_36 : decode cX2_makeOne 36 = .ok (.aload_n 2, 1) := by decide +kernel
theorem dX2_makeOne_37 : decode cX2_makeOne 37 = .ok (.iload 6, 2) := by decide +kernel
theorem dX2_makeOne_39 : decode cX2_makeOne 39 = .ok (.aload_n 2, 1) := by decide +kernel
theorem dX2_makeOne_40 : decode cX2_makeOne 40 = .ok (.iload 6, 2) := by decide +kernel
theorem dX2_makeOne_42 : decode cX2_makeOne 42 = .ok (.iaload, 1) := by decide +kernel
theorem dX2_makeOne_43 : decode cX2_makeOne 43 = .ok (.i2l, 1) := by decide +kernel
theorem dX2_makeOne_44 : decode cX2_makeOne 44 = .ok (.lload_n 3, 1) := by decide +kernel
theorem dX2_makeOne_45 : decode cX2_makeOne 45 = .ok (.lmul, 1) := by decide +kernel
theorem dX2_makeOne_46 : decode cX2_makeOne 46 = .ok (.ldc2_w 109, 3) := by decide +kernel
theorem dX2_makeOne_49 : decode cX2_makeOne 49 = .ok (.lrem, 1) := by decide +kernel
theorem dX2_makeOne_50 : decode cX2_makeOne 50 = .ok (.l2i, 1) := by decide +kernel
theorem dX2_makeOne_51 : decode cX2_makeOne 51 = .ok (.iastore, 1) := by decide +kernel
theorem dX2_makeOne_52 : decode cX2_makeOne 52 = .ok (.iload 6, 2) := by decide +kernel
theorem dX2_makeOne_54 : decode cX2_makeOne 54 = .ok (.iload_n 1, 1) := by decide +kernel
theorem dX2_makeOne_55 : decode cX2_makeOne 55 = .ok (.if_icmp .eq 15, 3) := by decide +kernel
theorem dX2_makeOne_58 : decode cX2_makeOne 58 = .ok (.aload_n 0, 1) := by decide +kernel
theorem dX2_makeOne_59 : decode cX2_makeOne 59 = .ok (.getfield 27, 3) := by decide +kernel
theorem dX2_makeOne_62 : decode cX2_makeOne 62 = .ok (.iload 5, 2) := by decide +kernel
theorem dX2_makeOne_64 : decode cX2_makeOne 64 = .ok (.iload 6, 2) := by decide +kernel
theorem dX2_makeOne_66 : decode cX2_makeOne 66 = .ok (.iastore, 1) := by decide +kernel
theorem dX2_makeOne_67 : decode cX2_makeOne 67 = .ok (.iinc 5 1, 3) := by decide +kernel
theorem dX2_makeOne_70 : decode cX2_makeOne 70 = .ok (.iinc 6 1, 3) := by decide +kernel
theorem dX2_makeOne_73 : decode cX2_makeOne 73 = .ok (.goto (-53), 3) := by decide +kernel
theorem dX2_makeOne_76 : decode cX2_makeOne 76 = .ok (.iload 5, 2) := by decide +kernel
theorem dX2_makeOne_78 : decode cX2_makeOne 78 = .ok (.ireturn, 1) := by decide +kernel
theorem dX2_takeAway_0 : decode cX2_takeAway 0 = .ok (.aload_n 0, 1) := by decide +kernel
theorem dX2_takeAway_1 : decode cX2_takeAway 1 = .ok (.getfield 24, 3) := by decide +kernel
theorem dX2_takeAway_4 : decode cX2_takeAway 4 = .ok (.iload_n 2, 1) := by decide +kernel
theorem dX2_takeAway_5 : decode cX2_takeAway 5 = .ok (.aaload, 1) := by decide +kernel
theorem dX2_takeAway_6 : decode cX2_takeAway 6 = .ok (.astore 4, 2) := by decide +kernel
theorem dX2_takeAway_8 : decode cX2_takeAway 8 = .ok (.aload_n 0, 1) := by decide +kernel
theorem dX2_takeAway_9 : decode cX2_takeAway 9 = .ok (.getfield 24, 3) := by decide +kernel
theorem dX2_takeAway_12 : decode cX2_takeAway 12 = .ok (.iload_n 1, 1) := by decide +kernel
theorem dX2_takeAway_13 : decode cX2_takeAway 13 = .ok (.aaload, 1) := by decide +kernel
theorem dX2_takeAway_14 : decode cX2_takeAway 14 = .ok (.astore 5, 2) := by decide +kernel
theorem dX2_takeAway_16 : decode cX2_takeAway 16 = .ok (.ldc 90, 2) := by decide +kernel
theorem dX2_takeAway_18 : decode cX2_takeAway 18 = .ok (.aload 4, 2) := by decide +kernel
theorem dX2_takeAway_20 : decode cX2_takeAway 20 = .ok (.iload_n 1, 1) := by decide +kernel
theorem dX2_takeAway_21 : decode cX2_takeAway 21 = .ok (.iaload, 1) := by decide +kernel
theorem dX2_takeAway_22 : decode cX2_takeAway 22 = .ok (.isub, 1) := by decide +kernel
theorem dX2_takeAway_23 : decode cX2_takeAway 23 = .ok (.i2l, 1) := by decide +kernel
theorem dX2_takeAway_24 : decode cX2_takeAway 24 = .ok (.lstore 6, 2) := by decide +kernel
theorem dX2_takeAway_26 : decode cX2_takeAway 26 = .ok (.iconst 0, 1) := by decide +kernel
theorem dX2_takeAway_27 : decode cX2_takeAway 27 = .ok (.istore 8, 2) := by decide +kernel
theorem dX2_takeAway_29 : decode cX2_takeAway 29 = .ok (.iload 8, 2) := by decide +kernel
theorem dX2_takeAway_31 : decode cX2_takeAway 31 = .ok (.iload_n 3, 1) := by decide +kernel
theorem dX2_takeAway_32 : decode cX2_takeAway 32 = .ok (.if_icmp .ge 67, 3) := by decide +kernel
theorem dX2_takeAway_35 : decode cX2_takeAway 35 = .ok (.iload 8, 2) := by decide +kernel
theorem dX2_takeAway_37 : decode cX2_takeAway 37 = .ok (.aload_n 0, 1) := by decide +kernel
theorem dX2_takeAway_38 : decode cX2_takeAway 38 = .ok (.getfield 71, 3) := by decide +kernel
theorem dX2_takeAway_41 : decode cX2_takeAway 41 = .ok (.if_icmp .gt 58, 3) := by decide +kernel
theorem dX2_takeAway_44 : decode cX2_takeAway 44 = .ok (.aload_n 0, 1) := by decide +kernel
theorem dX2_takeAway_45 : decode cX2_takeAway 45 = .ok (.getfield 27, 3) := by decide +kernel
theorem dX2_takeAway_48 : decode cX2_takeAway 48 = .ok (.iload 8, 2) := by decide +kernel
theorem dX2_takeAway_50 : decode cX2_takeAway 50 = .ok (.iaload, 1) := by decide +kernel
theorem dX2_takeAway_51 : decode cX2_takeAway 51 = .ok (.istore 9, 2) := by decide +kernel
theorem dX2_takeAway_53 : decode cX2_takeAway 53 = .ok (.iload 9, 2) := by decide +kernel
theorem dX2_takeAway_55 : decode cX2_takeAway 55 = .ok (.ifCond .lt 38, 3) := by decide +kernel
theorem dX2_takeAway_58 : decode cX2_takeAway 58 = .ok (.iload 9, 2) := by decide +kernel
theorem dX2_takeAway_60 : decode cX2_takeAway 60 = .ok (.aload_n 0, 1) := by decide +kernel
theorem dX2_takeAway_61 : decode cX2_takeAway 61 = .ok (.getfield 71, 3) := by decide +kernel
theorem dX2_takeAway_64 : decode cX2_takeAway 64 = .ok (.if_icmp .gt 29, 3) := by decide +kernel
theorem dX2_takeAway_67 : decode cX2_takeAway 67 = .ok (.aload 4, 2) := by decide +kernel
theorem dX2_takeAway_69 : decode cX2_takeAway 69 = .ok (.iload 9, 2) := by decide +kernel
theorem dX2_takeAway_71 : decode cX2_takeAway 71 = .ok (.aload 4, 2) := by decide +kernel
theorem dX2_takeAway_73 : decode cX2_takeAway 73 = .ok (.iload 9, 2) := by decide +kernel
theorem dX2_takeAway_75 : decode cX2_takeAway 75 = .ok (.iaload, 1) := by decide +kernel
theorem dX2_takeAway_76 : decode cX2_takeAway 76 = .ok (.i2l, 1) := by decide +kernel
theorem dX2_takeAway_77 : decode cX2_takeAway 77 = .ok (.lload 6, 2) := by decide +kernel
theorem dX2_takeAway_79 : decode cX2_takeAway 79 = .ok (.aload 5, 2) := by decide +kernel
theorem dX2_takeAway_81 : decode cX2_takeAway 81 = .ok (.iload 9, 2) := by decide +kernel
theorem dX2_takeAway_83 : decode cX2_takeAway 83 = .ok (.iaload, 1) := by decide +kernel
theorem dX2_takeAway_84 : decode cX2_takeAway 84 = .ok (.i2l, 1) := by decide +kernel
theorem dX2_takeAway_85 : decode cX2_takeAway 85 = .ok (.lmul, 1) := by decide +kernel
theorem dX2_takeAway_86 : decode cX2_takeAway 86 = .ok (.ladd, 1) := by decide +kernel
theorem dX2_takeAway_87 : decode cX2_takeAway 87 = .ok (.ldc2_w 109, 3) := by decide +kernel
theorem dX2_takeAway_90 : decode cX2_takeAway 90 = .ok (.lrem, 1) := by decide +kernel
theorem dX2_takeAway_91 : decode cX2_takeAway 91 = .ok (.l2i, 1) := by decide +kernel
theorem dX2_takeAway_92 : decode cX2_takeAway 92 = .ok (.iastore, 1) := by decide +kernel
theorem dX2_takeAway_93 : decode cX2_takeAway 93 = .ok (.iinc 8 1, 3) := by decide +kernel
theorem dX2_takeAway_96 : decode cX2_takeAway 96 = .ok (.goto (-67), 3) := by decide +kernel
theorem dX2_takeAway_99 : decode cX2_takeAway 99 = .ok (.aload 4, 2) := by decide +kernel
theorem dX2_takeAway_101 : decode cX2_takeAway 101 = .ok (.iload_n 1, 1) := by decide +kernel
theorem dX2_takeAway_102 : decode cX2_takeAway 102 = .ok (.iconst 0, 1) := by decide +kernel
theorem dX2_takeAway_103 : decode cX2_takeAway 103 = .ok (.iastore, 1) := by decide +kernel
theorem dX2_takeAway_104 : decode cX2_takeAway 104 = .ok (.return_, 1) := by decide +kernel
theorem dX2_fillIn_0 : decode cX2_fillIn 0 = .ok (.iconst 0, 1) := by decide +kernel
theorem dX2_fillIn_1 : decode cX2_fillIn 1 = .ok (.istore_n 1, 1) := by decide +kernel
theorem dX2_fillIn_2 : decode cX2_fillIn 2 = .ok (.iload_n 1, 1) := by decide +kernel
theorem dX2_fillIn_3 : decode cX2_fillIn 3 = .ok (.aload_n 0, 1) := by decide +kernel
theorem dX2_fillIn_4 : decode cX2_fillIn 4 = .ok (.getfield 71, 3) := by decide +kernel
theorem dX2_fillIn_7 : decode cX2_fillIn 7 = .ok (.if_icmp .ge 86, 3) := by decide +kernel
theorem dX2_fillIn_10 : decode cX2_fillIn 10 = .ok (.aload_n 0, 1) := by decide +kernel
theorem dX2_fillIn_11 : decode cX2_fillIn 11 = .ok (.getfield 24, 3) := by decide +kernel
theorem dX2_fillIn_14 : decode cX2_fillIn 14 = .ok (.iload_n 1, 1) := by decide +kernel
theorem dX2_fillIn_15 : decode cX2_fillIn 15 = .ok (.aaload, 1) := by decide +kernel
theorem dX2_fillIn_16 : decode cX2_fillIn 16 = .ok (.aload_n 0, 1) := by decide +kernel
theorem dX2_fillIn_17 : decode cX2_fillIn 17 = .ok (.getfield 71, 3) := by decide +kernel
theorem dX2_fillIn_20 : decode cX2_fillIn 20 = .ok (.iaload, 1) := by decide +kernel
theorem dX2_fillIn_21 : decode cX2_fillIn 21 = .ok (.i2l, 1) := by decide +kernel
theorem dX2_fillIn_22 : decode cX2_fillIn 22 = .ok (.lstore_n 2, 1) := by decide +kernel
theorem dX2_fillIn_23 : decode cX2_fillIn 23 = .ok (.iconst 0, 1) := by decide +kernel
theorem dX2_fillIn_24 : decode cX2_fillIn 24 = .ok (.istore 4, 2) := by decide +kernel
theorem dX2_fillIn_26 : decode cX2_fillIn 26 = .ok (.iload 4, 2) := by decide +kernel
theorem dX2_fillIn_28 : decode cX2_fillIn 28 = .ok (.iload_n 1, 1) := by decide +kernel
theorem dX2_fillIn_29 : decode cX2_fillIn 29 = .ok (.if_icmp .ge 50, 3) := by decide +kernel
theorem dX2_fillIn_32 : decode cX2_fillIn 32 = .ok (.aload_n 0, 1) := by decide +kernel
theorem dX2_fillIn_33 : decode cX2_fillIn 33 = .ok (.getfield 24, 3) := by decide +kernel
theorem dX2_fillIn_36 : decode cX2_fillIn 36 = .ok (.iload_n 1, 1) := by decide +kernel
theorem dX2_fillIn_37 : decode cX2_fillIn 37 = .ok (.aaload, 1) := by decide +kernel
theorem dX2_fillIn_38 : decode cX2_fillIn 38 = .ok (.iload 4, 2) := by decide +kernel
theorem dX2_fillIn_40 : decode cX2_fillIn 40 = .ok (.iaload, 1) := by decide +kernel
theorem dX2_fillIn_41 : decode cX2_fillIn 41 = .ok (.i2l, 1) := by decide +kernel
theorem dX2_fillIn_42 : decode cX2_fillIn 42 = .ok (.lstore 5, 2) := by decide +kernel
theorem dX2_fillIn_44 : decode cX2_fillIn 44 = .ok (.lload 5, 2) := by decide +kernel
theorem dX2_fillIn_46 : decode cX2_fillIn 46 = .ok (.lconst 0, 1) := by decide +kernel
theorem dX2_fillIn_47 : decode cX2_fillIn 47 = .ok (.lcmp, 1) := by decide +kernel
theorem dX2_fillIn_48 : decode cX2_fillIn 48 = .ok (.ifCond .eq 25, 3) := by decide +kernel
theorem dX2_fillIn_51 : decode cX2_fillIn 51 = .ok (.lload_n 2, 1) := by decide +kernel
theorem dX2_fillIn_52 : decode cX2_fillIn 52 = .ok (.ldc2_w 109, 3) := by decide +kernel
theorem dX2_fillIn_55 : decode cX2_fillIn 55 = .ok (.lload 5, 2) := by decide +kernel
theorem dX2_fillIn_57 : decode cX2_fillIn 57 = .ok (.lsub, 1) := by decide +kernel
theorem dX2_fillIn_58 : decode cX2_fillIn 58 = .ok (.aload_n 0, 1) := by decide +kernel
theorem dX2_fillIn_59 : decode cX2_fillIn 59 = .ok (.getfield 31, 3) := by decide +kernel
theorem dX2_fillIn_62 : decode cX2_fillIn 62 = .ok (.iload 4, 2) := by decide +kernel
theorem dX2_fillIn_64 : decode cX2_fillIn 64 = .ok (.iaload, 1) := by decide +kernel
theorem dX2_fillIn_65 : decode cX2_fillIn 65 = .ok (.i2l, 1) := by decide +kernel
theorem dX2_fillIn_66 : decode cX2_fillIn 66 = .ok (.lmul, 1) := by decide +kernel
theorem dX2_fillIn_67 : decode cX2_fillIn 67 = .ok (.ladd, 1) := by decide +kernel
theorem dX2_fillIn_68 : decode cX2_fillIn 68 = .ok (.ldc2_w 109, 3) := by decide +kernel
theorem dX2_fillIn_71 : decode cX2_fillIn 71 = .ok (.lrem, 1) := by decide +kernel
theorem dX2_fillIn_72 : decode cX2_fillIn 72 = .ok (.lstore_n 2, 1) := by decide +kernel
theorem dX2_fillIn_73 : decode cX2_fillIn 73 = .ok (.iinc 4 1, 3) := by decide +kernel
theorem dX2_fillIn_76 : decode cX2_fillIn 76 = .ok (.goto (-50), 3) := by decide +kernel
theorem dX2_fillIn_79 : decode cX2_fillIn 79 = .ok (.aload_n 0, 1) := by decide +kernel
theorem dX2_fillIn_80 : decode cX2_fillIn 80 = .ok (.getfield 31, 3) := by decide +kernel
theorem dX2_fillIn_83 : decode cX2_fillIn 83 = .ok (.iload_n 1, 1) := by decide +kernel
theorem dX2_fillIn_84 : decode cX2_fillIn 84 = .ok (.lload_n 2, 1) := by decide +kernel
theorem dX2_fillIn_85 : decode cX2_fillIn 85 = .ok (.l2i, 1) := by decide +kernel
theorem dX2_fillIn_86 : decode cX2_fillIn 86 = .ok (.iastore, 1) := by decide +kernel
theorem dX2_fillIn_87 : decode cX2_fillIn 87 = .ok (.iinc 1 1, 3) := by decide +kernel
theorem dX2_fillIn_90 : decode cX2_fillIn 90 = .ok (.goto (-88), 3) := by decide +kernel
theorem dX2_fillIn_93 : decode cX2_fillIn 93 = .ok (.return_, 1) := by decide +kernel
theorem dX2_inverseOf_0 : decode cX2_inverseOf 0 = .ok (.lconst 1, 1) := by decide +kernel
theorem dX2_inverseOf_1 : decode cX2_inverseOf 1 = .ok (.lstore_n 1, 1) := by decide +kernel
theorem dX2_inverseOf_2 : decode cX2_inverseOf 2 = .ok (.iload_n 0, 1) := by decide +kernel
theorem dX2_inverseOf_3 : decode cX2_inverseOf 3 = .ok (.i2l, 1) := by decide +kernel
theorem dX2_inverseOf_4 : decode cX2_inverseOf 4 = .ok (.lstore_n 3, 1) := by decide +kernel
theorem dX2_inverseOf_5 : decode cX2_inverseOf 5 = .ok (.ldc 111, 2) := by decide +kernel
theorem dX2_inverseOf_7 : decode cX2_inverseOf 7 = .ok (.istore 5, 2) := by decide +kernel
theorem dX2_inverseOf_9 : decode cX2_inverseOf 9 = .ok (.iload 5, 2) := by decide +kernel
theorem dX2_inverseOf_11 : decode cX2_inverseOf 11 = .ok (.ifCond .le 35, 3) := by decide +kernel
theorem dX2_inverseOf_14 : decode cX2_inverseOf 14 = .ok (.iload 5, 2) := by decide +kernel
theorem dX2_inverseOf_16 : decode cX2_inverseOf 16 = .ok (.iconst 1, 1) := by decide +kernel
theorem dX2_inverseOf_17 : decode cX2_inverseOf 17 = .ok (.iand, 1) := by decide +kernel
theorem dX2_inverseOf_18 : decode cX2_inverseOf 18 = .ok (.ifCond .eq 11, 3) := by decide +kernel
theorem dX2_inverseOf_21 : decode cX2_inverseOf 21 = .ok (.lload_n 1, 1) := by decide +kernel
theorem dX2_inverseOf_22 : decode cX2_inverseOf 22 = .ok (.lload_n 3, 1) := by decide +kernel
theorem dX2_inverseOf_23 : decode cX2_inverseOf 23 = .ok (.lmul, 1) := by decide +kernel
theorem dX2_inverseOf_24 : decode cX2_inverseOf 24 = .ok (.ldc2_w 109, 3) := by decide +kernel
theorem dX2_inverseOf_27 : decode cX2_inverseOf 27 = .ok (.lrem, 1) := by decide +kernel
theorem dX2_inverseOf_28 : decode cX2_inverseOf 28 = .ok (.lstore_n 1, 1) := by decide +kernel
theorem dX2_inverseOf_29 : decode cX2_inverseOf 29 = .ok (.lload_n 3, 1) := by decide +kernel
theorem dX2_inverseOf_30 : decode cX2_inverseOf 30 = .ok (.lload_n 3, 1) := by decide +kernel
theorem dX2_inverseOf_31 : decode cX2_inverseOf 31 = .ok (.lmul, 1) := by decide +kernel
theorem dX2_inverseOf_32 : decode cX2_inverseOf 32 = .ok (.ldc2_w 109, 3) := by decide +kernel
theorem dX2_inverseOf_35 : decode cX2_inverseOf 35 = .ok (.lrem, 1) := by decide +kernel
theorem dX2_inverseOf_36 : decode cX2_inverseOf 36 = .ok (.lstore_n 3, 1) := by decide +kernel
theorem dX2_inverseOf_37 : decode cX2_inverseOf 37 = .ok (.iload 5, 2) := by decide +kernel
theorem dX2_inverseOf_39 : decode cX2_inverseOf 39 = .ok (.iconst 1, 1) := by decide +kernel
theorem dX2_inverseOf_40 : decode cX2_inverseOf 40 = .ok (.ishr, 1) := by decide +kernel
theorem dX2_inverseOf_41 : decode cX2_inverseOf 41 = .ok (.istore 5, 2) := by decide +kernel
theorem dX2_inverseOf_43 : decode cX2_inverseOf 43 = .ok (.goto (-34), 3) := by decide +kernel
theorem dX2_inverseOf_46 : decode cX2_inverseOf 46 = .ok (.lload_n 1, 1) := by decide +kernel
theorem dX2_inverseOf_47 : decode cX2_inverseOf 47 = .ok (.lreturn, 1) := by decide +kernel
theorem dX3_init_0 : decode cX3_init 0 = .ok (.aload_n 0, 1) := by decide +kernel
theorem dX3_init_1 : decode cX3_init 1 = .ok (.invokespecial 3, 3) := by decide +kernel
theorem dX3_init_4 : decode cX3_init 4 = .ok (.aload_n 0, 1) := by decide +kernel
theorem dX3_init_5 : decode cX3_init 5 = .ok (.bipush 64, 2) := by decide +kernel
theorem dX3_init_7 : decode cX3_init 7 = .ok (.newarray .int, 2) := by decide +kernel
theorem dX3_init_9 : decode cX3_init 9 = .ok (.putfield 9, 3) := by decide +kernel
theorem dX3_init_12 : decode cX3_init 12 = .ok (.aload_n 0, 1) := by decide +kernel
theorem dX3_init_13 : decode cX3_init 13 = .ok (.bipush 64, 2) := by decide +kernel
theorem dX3_init_15 : decode cX3_init 15 = .ok (.newarray .int, 2) := by decide +kernel
theorem dX3_init_17 : decode cX3_init 17 = .ok (.putfield 15, 3) := by decide +kernel
theorem dX3_init_20 : decode cX3_init 20 = .ok (.return_, 1) := by decide +kernel
theorem dX3_reckon_0 : decode cX3_reckon 0 = .ok (.aload_n 0, 1) := by decide +kernel
theorem dX3_reckon_1 : decode cX3_reckon 1 = .ok (.getfield 9, 3) := by decide +kernel
theorem dX3_reckon_4 : decode cX3_reckon 4 = .ok (.iconst 0, 1) := by decide +kernel
theorem dX3_reckon_5 : decode cX3_reckon 5 = .ok (.invokestatic 18, 3) := by decide +kernel
theorem dX3_reckon_8 : decode cX3_reckon 8 = .ok (.iload_n 2, 1) := by decide +kernel
theorem dX3_reckon_9 : decode cX3_reckon 9 = .ok (.invokestatic 24, 3) := by decide +kernel
theorem dX3_reckon_12 : decode cX3_reckon 12 = .ok (.ifCond .eq 10, 3) := by decide +kernel
theorem dX3_reckon_15 : decode cX3_reckon 15 = .ok (.aload_n 0, 1) := by decide +kernel
theorem dX3_reckon_16 : decode cX3_reckon 16 = .ok (.getfield 9, 3) := by decide +kernel
theorem dX3_reckon_19 : decode cX3_reckon 19 = .ok (.iload_n 2, 1) := by decide +kernel
theorem dX3_reckon_20 : decode cX3_reckon 20 = .ok (.iconst 1, 1) := by decide +kernel
theorem dX3_reckon_21 : decode cX3_reckon 21 = .ok (.iastore, 1) := by decide +kernel
theorem dX3_reckon_22 : decode cX3_reckon 22 = .ok (.aload_n 0, 1) := by decide +kernel
theorem dX3_reckon_23 : decode cX3_reckon 23 = .ok (.iconst 0, 1) := by decide +kernel
theorem dX3_reckon_24 : decode cX3_reckon 24 = .ok (.putfield 28, 3) := by decide +kernel
theorem dX3_reckon_27 : decode cX3_reckon 27 = .ok (.aload_n 0, 1) := by decide +kernel
theorem dX3_reckon_28 : decode cX3_reckon 28 = .ok (.iconst 1, 1) := by decide +kernel
theorem dX3_reckon_29 : decode cX3_reckon 29 = .ok (.putfield 32, 3) := by decide +kernel
theorem dX3_reckon_32 : decode cX3_reckon 32 = .ok (.iconst 0, 1) := by decide +kernel
theorem dX3_reckon_33 : decode cX3_reckon 33 = .ok (.istore 5, 2) := by decide +kernel
theorem dX3_reckon_35 : decode cX3_reckon 35 = .ok (.iload 5, 2) := by decide +kernel
theorem dX3_reckon_37 : decode cX3_reckon 37 = .ok (.iload 4, 2) := by decide +kernel
theorem dX3_reckon_39 : decode cX3_reckon 39 = .ok (.if_icmp .ge 45, 3) := by decide +kernel
theorem dX3_reckon_42 : decode cX3_reckon 42 = .ok (.iload 5, 2) := by decide +kernel
theorem dX3_reckon_44 : decode cX3_reckon 44 = .ok (.bipush 8, 2) := by decide +kernel
theorem dX3_reckon_46 : decode cX3_reckon 46 = .ok (.if_icmp .ge 38, 3) := by decide +kernel
theorem dX3_reckon_49 : decode cX3_reckon 49 = .ok (.aload_n 0, 1) := by decide +kernel
theorem dX3_reckon_50 : decode cX3_reckon 50 = .ok (.aload_n 0, 1) := by decide +kernel
theorem dX3_reckon_51 : decode cX3_reckon 51 = .ok (.getfield 28, 3) := by decide +kernel
theorem dX3_reckon_54 : decode cX3_reckon 54 = .ok (.bipush 10, 2) := by decide +kernel
theorem dX3_reckon_56 : decode cX3_reckon 56 = .ok (.imul, 1) := by decide +kernel
theorem dX3_reckon_57 : decode cX3_reckon 57 = .ok (.aload_n 0, 1) := by decide +kernel
theorem dX3_reckon_58 : decode cX3_reckon 58 = .ok (.aload_n 1, 1) := by decide +kernel
theorem dX3_reckon_59 : decode cX3_reckon 59 = .ok (.aload_n 3, 1) := by decide +kernel
theorem dX3_reckon_60 : decode cX3_reckon 60 = .ok (.invokevirtual 35, 3) := by decide +kernel
theorem dX3_reckon_63 : decode cX3_reckon 63 = .ok (.iadd, 1) := by decide +kernel
theorem dX3_reckon_64 : decode cX3_reckon 64 = .ok (.putfield 28, 3) := by decide +kernel
theorem dX3_reckon_67 : decode cX3_reckon 67 = .ok (.aload_n 0, 1) := by decide +kernel
theorem dX3_reckon_68 : decode cX3_reckon 68 = .ok (.dup, 1) := by decide +kernel
theorem dX3_reckon_69 : decode cX3_reckon 69 = .ok (.getfield 32, 3) := by decide +kernel
theorem dX3_reckon_72 : decode cX3_reckon 72 = .ok (.bipush 10, 2) := by decide +kernel
theorem dX3_reckon_74 : decode cX3_reckon 74 = .ok (.imul, 1) := by decide +kernel
theorem dX3_reckon_75 : decode cX3_reckon 75 = .ok (.putfield 32, 3) := by decide +kernel
theorem dX3_reckon_78 : decode cX3_reckon 78 = .ok (.iinc 5 1, 3) := by decide +kernel
theorem dX3_reckon_81 : decode cX3_reckon 81 = .ok (.goto (-46), 3) := by decide +kernel
theorem dX3_reckon_84 : decode cX3_reckon 84 = .ok (.aload_n 0, 1) := by decide +kernel
theorem dX3_reckon_85 : decode cX3_reckon 85 = .ok (.getfield 28, 3) := by decide +kernel
theorem dX3_reckon_88 : decode cX3_reckon 88 = .ok (.aload_n 0, 1) := by decide +kernel
theorem dX3_reckon_89 : decode cX3_reckon 89 = .ok (.getfield 32, 3) := by decide +kernel
theorem dX3_reckon_92 : decode cX3_reckon 92 = .ok (.invokestatic 39, 3) := by decide +kernel
theorem dX3_reckon_95 : decode cX3_reckon 95 = .ok (.istore 5, 2) := by decide +kernel
theorem dX3_reckon_97 : decode cX3_reckon 97 = .ok (.iload 5, 2) := by decide +kernel
theorem dX3_reckon_99 : decode cX3_reckon 99 = .ok (.iconst 1, 1) := by decide +kernel
theorem dX3_reckon_100 : decode cX3_reckon 100 = .ok (.if_icmp .le 25, 3) := by decide +kernel
theorem dX3_reckon_103 : decode cX3_reckon 103 = .ok (.aload_n 0, 1) := by decide +kernel
theorem dX3_reckon_104 : decode cX3_reckon 104 = .ok (.dup, 1) := by decide +kernel
theorem dX3_reckon_105 : decode cX3_reckon 105 = .ok (.getfield 28, 3) := by decide +kernel
theorem dX3_reckon_108 : decode cX3_reckon 108 = .ok (.iload 5, 2) := by decide +kernel
theorem dX3_reckon_110 : decode cX3_reckon 110 = .ok (.idiv, 1) := by decide +kernel
theorem dX3_reckon_111 : decode cX3_reckon 111 = .ok (.putfield 28, 3) := by decide +kernel
theorem dX3_reckon_114 : decode cX3_reckon 114 = .ok (.aload_n 0, 1) := by decide +kernel
theorem dX3_reckon_115 : decode cX3_reckon 115 = .ok (.dup, 1) := by decide +kernel
theorem dX3_reckon_116 : decode cX3_reckon 116 = .ok (.getfield 32, 3) := by decide +kernel
theorem dX3_reckon_119 : decode cX3_reckon 119 = .ok (.iload 5, 2) := by decide +kernel
theorem dX3_reckon_121 : decode cX3_reckon 121 = .ok (.idiv, 1) := by decide +kernel
theorem dX3_reckon_122 : decode cX3_reckon 122 = .ok (.putfield 32, 3) := by decide +kernel
theorem dX3_reckon_125 : decode cX3_reckon 125 = .ok (.return_, 1) := by decide +kernel
theorem dX3_spread_0 : decode cX3_spread 0 = .ok (.iconst 0, 1) := by decide +kernel
theorem dX3_spread_1 : decode cX3_spread 1 = .ok (.istore_n 3, 1) := by decide +kernel
theorem dX3_spread_2 : decode cX3_spread 2 = .ok (.aload_n 0, 1) := by decide +kernel
theorem dX3_spread_3 : decode cX3_spread 3 = .ok (.getfield 15, 3) := by decide +kernel
theorem dX3_spread_6 : decode cX3_spread 6 = .ok (.iconst 0, 1) := by decide +kernel
theorem dX3_spread_7 : decode cX3_spread 7 = .ok (.invokestatic 18, 3) := by decide +kernel
theorem dX3_spread_10 : decode cX3_spread 10 = .ok (.iconst 0, 1) := by decide +kernel
theorem dX3_spread_11 : decode cX3_spread 11 = .ok (.istore 4, 2) := by decide +kernel
theorem dX3_spread_13 : decode cX3_spread 13 = .ok (.iload 4, 2) := by decide +kernel
theorem dX3_spread_15 : decode cX3_spread 15 = .ok (.aload_n 1, 1) := by decide +kernel
theorem dX3_spread_16 : decode cX3_spread 16 = .ok (.getfield 43, 3) := by decide +kernel
theorem dX3_spread_19 : decode cX3_spread 19 = .ok (.if_icmp .ge 100, 3) := by decide +kernel
theorem dX3_spread_22 : decode cX3_spread 22 = .ok (.iload 4, 2) := by decide +kernel
theorem dX3_spread_24 : decode cX3_spread 24 = .ok (.bipush 64, 2) := by decide +kernel
theorem dX3_spread_26 : decode cX3_spread 26 = .ok (.if_icmp .ge 93, 3) := by decide +kernel
theorem dX3_spread_29 : decode cX3_spread 29 = .ok (.aload_n 0, 1) := by decide +kernel
theorem dX3_spread_30 : decode cX3_spread 30 = .ok (.getfield 9, 3) := by decide +kernel
theorem dX3_spread_33 : decode cX3_spread 33 = .ok (.iload 4, 2) := by decide +kernel
theorem dX3_spread_35 : decode cX3_spread 35 = .ok (.iaload, 1) := by decide +kernel
theorem dX3_spread_36 : decode cX3_spread 36 = .ok (.ifCond .ne 6, 3) := by decide +kernel
theorem dX3_spread_39 : decode cX3_spread 39 = .ok (.goto 74, 3) := by decide +kernel
theorem dX3_spread_42 : decode cX3_spread 42 = .ok (.iconst 0, 1) := by decide +kernel
theorem dX3_spread_43 : decode cX3_spread 43 = .ok (.istore 5, 2) := by decide +kernel
theorem dX3_spread_45 : decode cX3_spread 45 = .ok (.iload 5, 2) := by decide +kernel
theorem dX3_spread_47 : decode cX3_spread 47 = .ok (.iconst 5, 1) := by decide +kernel
theorem dX3_spread_48 : decode cX3_spread 48 = .ok (.if_icmp .ge 65, 3) := by decide +kernel
theorem dX3_spread_51 : decode cX3_spread 51 = .ok (.aload_n 0, 1) := by decide +kernel
theorem dX3_spread_52 : decode cX3_spread 52 = .ok (.getfield 9, 3) := by decide +kernel
theorem dX3_spread_55 : decode cX3_spread 55 = .ok (.iload 4, 2) := by decide +kernel
theorem dX3_spread_57 : decode cX3_spread 57 = .ok (.iaload, 1) := by decide +kernel
theorem dX3_spread_58 : decode cX3_spread 58 = .ok (.aload_n 2, 1) := by decide +kernel
theorem dX3_spread_59 : decode cX3_spread 59 = .ok (.iload 5, 2) := by decide +kernel
theorem dX3_spread_61 : decode cX3_spread 61 = .ok (.iaload, 1) := by decide +kernel
theorem dX3_spread_62 : decode cX3_spread 62 = .ok (.imul, 1) := by decide +kernel
theorem dX3_spread_63 : decode cX3_spread 63 = .ok (.istore 6, 2) := by decide +kernel
theorem dX3_spread_65 : decode cX3_spread 65 = .ok (.aload_n 1, 1) := by decide +kernel
theorem dX3_spread_66 : decode cX3_spread 66 = .ok (.getfield 48, 3) := by decide +kernel
theorem dX3_spread_69 : decode cX3_spread 69 = .ok (.iload 4, 2) := by decide +kernel
theorem dX3_spread_71 : decode cX3_spread 71 = .ok (.iconst 5, 1) := by decide +kernel
theorem dX3_spread_72 : decode cX3_spread 72 = .ok (.imul, 1) := by decide +kernel
theorem dX3_spread_73 : decode cX3_spread 73 = .ok (.iload 5, 2) := by decide +kernel
theorem dX3_spread_75 : decode cX3_spread 75 = .ok (.iadd, 1) := by decide +kernel
theorem dX3_spread_76 : decode cX3_spread 76 = .ok (.iaload, 1) := by decide +kernel
theorem dX3_spread_77 : decode cX3_spread 77 = .ok (.istore 7, 2) := by decide +kernel
theorem dX3_spread_79 : decode cX3_spread 79 = .ok (.iload 7, 2) := by decide +kernel
theorem dX3_spread_81 : decode cX3_spread 81 = .ok (.invokestatic 24, 3) := by decide +kernel
theorem dX3_spread_84 : decode cX3_spread 84 = .ok (.ifCond .eq 18, 3) := by decide +kernel
theorem dX3_spread_87 : decode cX3_spread 87 = .ok (.aload_n 0, 1) := by decide +kernel
theorem dX3_spread_88 : decode cX3_spread 88 = .ok (.getfield 15, 3) := by decide +kernel
theorem dX3_spread_91 : decode cX3_spread 91 = .ok (.iload 7, 2) := by decide +kernel
theorem dX3_spread_93 : decode cX3_spread 93 = .ok (.dup2, 1) := by decide +kernel
theorem dX3_spread_94 : decode cX3_spread 94 = .ok (.iaload, 1) := by decide +kernel
theorem dX3_spread_95 : decode cX3_spread 95 = .ok (.iload 6, 2) := by decide +kernel
theorem dX3_spread_97 : decode cX3_spread 97 = .ok (.iadd, 1) := by decide +kernel
theorem dX3_spread_98 : decode cX3_spread 98 = .ok (.iastore, 1) := by decide +kernel
theorem dX3_spread_99 : decode cX3_spread 99 = .ok (.goto 8, 3) := by decide +kernel
theorem dX3_spread_102 : decode cX3_spread 102 = .ok (.iload_n 3, 1) := by decide +kernel
theorem dX3_spread_103 : decode cX3_spread 103 = .ok (.iload 6, 2) := by decide +kernel
theorem dX3_spread_105 : decode cX3_spread 105 = .ok (.iadd, 1) := by decide +kernel
theorem dX3_spread_106 : decode cX3_spread 106 = .ok (.istore_n 3, 1) := by decide +kernel
theorem dX3_spread_107 : decode cX3_spread 107 = .ok (.iinc 5 1, 3) := by decide +kernel
theorem dX3_spread_110 : decode cX3_spread 110 = .ok (.goto (-65), 3) := by decide +kernel
theorem dX3_spread_113 : decode cX3_spread 113 = .ok (.iinc 4 1, 3) := by decide +kernel
theorem dX3_spread_116 : decode cX3_spread 116 = .ok (.goto (-103), 3) := by decide +kernel
theorem dX3_spread_119 : decode cX3_spread 119 = .ok (.aload_n 0, 1) := by decide +kernel
theorem dX3_spread_120 : decode cX3_spread 120 = .ok (.getfield 9, 3) := by decide +kernel
theorem dX3_spread_123 : decode cX3_spread 123 = .ok (.astore 4, 2) := by decide +kernel
theorem dX3_spread_125 : decode cX3_spread 125 = .ok (.aload_n 0, 1) := by decide +kernel
theorem dX3_spread_126 : decode cX3_spread 126 = .ok (.aload_n 0, 1) := by decide +kernel
theorem dX3_spread_127 : decode cX3_spread 127 = .ok (.getfield 15, 3) := by decide +kernel
theorem dX3_spread_130 : decode cX3_spread 130 = .ok (.putfield 9, 3) := by decide +kernel
theorem dX3_spread_133 : decode cX3_spread 133 = .ok (.aload_n 0, 1) := by decide +kernel
theorem dX3_spread_134 : decode cX3_spread 134 = .ok (.aload 4, 2) := by decide +kernel
theorem dX3_spread_136 : decode cX3_spread 136 = .ok (.putfield 15, 3) := by decide +kernel
theorem dX3_spread_139 : decode cX3_spread 139 = .ok (.iload_n 3, 1) := by decide +kernel
theorem dX3_spread_140 : decode cX3_spread 140 = .ok (.ireturn, 1) := by decide +kernel
theorem dX3_commonDivisor_0 : decode cX3_commonDivisor 0 = .ok (.iload_n 0, 1) := by decide +kernel
theorem dX3_commonDivisor_1 : decode cX3_commonDivisor 1 = .ok (.istore_n 2, 1) := by decide +kernel
theorem dX3_commonDivisor_2 : decode cX3_commonDivisor 2 = .ok (.iload_n 1, 1) := by decide +kernel
theorem dX3_commonDivisor_3 : decode cX3_commonDivisor 3 = .ok (.istore_n 3, 1) := by decide +kernel
theorem dX3_commonDivisor_4 : decode cX3_commonDivisor 4 = .ok (.iconst 0, 1) := by decide +kernel
theorem dX3_commonDivisor_5 : decode cX3_commonDivisor 5 = .ok (.istore 4, 2) := by decide +kernel
theorem dX3_commonDivisor_7 : decode cX3_commonDivisor 7 = .ok (.iload 4, 2) := by decide +kernel
theorem dX3_commonDivisor_9 : decode cX3_commonDivisor 9 = .ok (.bipush 64, 2) := by decide +kernel
theorem dX3_commonDivisor_11 : decode cX3_commonDivisor 11 = .ok (.if_icmp .ge 23, 3) := by decide +kernel
theorem dX3_commonDivisor_14 : decode cX3_commonDivisor 14 = .ok (.iload_n 3, 1) := by decide +kernel
theorem dX3_commonDivisor_15 : decode cX3_commonDivisor 15 = .ok (.ifCond .eq 19, 3) := by decide +kernel
theorem dX3_commonDivisor_18 : decode cX3_commonDivisor 18 = .ok (.iload_n 2, 1) := by decide +kernel
theorem dX3_commonDivisor_19 : decode cX3_commonDivisor 19 = .ok (.iload_n 3, 1) := by decide +kernel
theorem dX3_commonDivisor_20 : decode cX3_commonDivisor 20 = .ok (.irem, 1) := by decide +kernel
theorem dX3_commonDivisor_21 : decode cX3_commonDivisor 21 = .ok (.istore 5, 2) := by decide +kernel
theorem dX3_commonDivisor_23 : decode cX3_commonDivisor 23 = .ok (.iload_n 3, 1) := by decide +kernel
theorem dX3_commonDivisor_24 : decode cX3_commonDivisor 24 = .ok (.istore_n 2, 1) := by decide +kernel
theorem dX3_commonDivisor_25 : decode cX3_commonDivisor 25 = .ok (.iload 5, 2) := by decide +kernel
theorem dX3_commonDivisor_27 : decode cX3_commonDivisor 27 = .ok (.istore_n 3, 1) := by decide +kernel
theorem dX3_commonDivisor_28 : decode cX3_commonDivisor 28 = .ok (.iinc 4 1, 3) := by decide +kernel
theorem dX3_commonDivisor_31 : decode cX3_commonDivisor 31 = .ok (.goto (-24), 3) := by decide +kernel
theorem dX3_commonDivisor_34 : decode cX3_commonDivisor 34 = .ok (.iload_n 2, 1) := by decide +kernel
theorem dX3_commonDivisor_35 : decode cX3_commonDivisor 35 = .ok (.ireturn, 1) := by decide +kernel
theorem dX4_init_0 : decode cX4_init 0 = .ok (.aload_n 0, 1) := by decide +kernel
theorem dX4_init_1 : decode cX4_init 1 = .ok (.invokespecial 3, 3) := by decide +kernel
theorem dX4_init_4 : decode cX4_init 4 = .ok (.aload_n 0, 1) := by decide +kernel
theorem dX4_init_5 : decode cX4_init 5 = .ok (.iconst 3, 1) := by decide +kernel
theorem dX4_init_6 : decode cX4_init 6 = .ok (.newarray .int, 2) := by decide +kernel
theorem dX4_init_8 : decode cX4_init 8 = .ok (.putfield 9, 3) := by decide +kernel
theorem dX4_init_11 : decode cX4_init 11 = .ok (.aload_n 0, 1) := by decide +kernel
theorem dX4_init_12 : decode cX4_init 12 = .ok (.iconst 3, 1) := by decide +kernel
theorem dX4_init_13 : decode cX4_init 13 = .ok (.newarray .int, 2) := by decide +kernel
theorem dX4_init_15 : decode cX4_init 15 = .ok (.putfield 15, 3) := by decide +kernel
theorem dX4_init_18 : decode cX4_init 18 = .ok (.aload_n 0, 1) := by decide +kernel
theorem dX4_init_19 : decode cX4_init 19 = .ok (.iconst 3, 1) := by decide +kernel
theorem dX4_init_20 : decode cX4_init 20 = .ok (.newarray .int, 2) := by decide +kernel
theorem dX4_init_22 : decode cX4_init 22 = .ok (.putfield 18, 3) := by decide +kernel
theorem dX4_init_25 : decode cX4_init 25 = .ok (.aload_n 0, 1) := by decide +kernel
theorem dX4_init_26 : decode cX4_init 26 = .ok (.iconst 5, 1) := by decide +kernel
theorem dX4_init_27 : decode cX4_init 27 = .ok (.newarray .int, 2) := by decide +kernel
theorem dX4_init_29 : decode cX4_init 29 = .ok (.putfield 21, 3) := by decide +kernel
theorem dX4_init_32 : decode cX4_init 32 = .ok (.aload_n 0, 1) := by decide +kernel
theorem dX4_init_33 : decode cX4_init 33 = .ok (.invokevirtual 24, 3) := by decide +kernel
theorem dX4_init_36 : decode cX4_init 36 = .ok (.return_, 1) := by decide +kernel
theorem dX4_becomeFirst_0 : decode cX4_becomeFirst 0 = .ok (.aload_n 0, 1) := by decide +kernel
theorem dX4_becomeFirst_1 : decode cX4_becomeFirst 1 = .ok (.iconst 0, 1) := by decide +kernel
theorem dX4_becomeFirst_2 : decode cX4_becomeFirst 2 = .ok (.putfield 27, 3) := by decide +kernel
theorem dX4_becomeFirst_5 : decode cX4_becomeFirst 5 = .ok (.getstatic 31, 3) := by decide +kernel
theorem dX4_becomeFirst_8 : decode cX4_becomeFirst 8 = .ok (.iconst 0, 1) := by decide +kernel
theorem dX4_becomeFirst_9 : decode cX4_becomeFirst 9 = .ok (.aload_n 0, 1) := by decide +kernel
theorem dX4_becomeFirst_10 : decode cX4_becomeFirst 10 = .ok (.getfield 21, 3) := by decide +kernel
theorem dX4_becomeFirst_13 : decode cX4_becomeFirst 13 = .ok (.iconst 0, 1) := by decide +kernel
theorem dX4_becomeFirst_14 : decode cX4_becomeFirst 14 = .ok (.iconst 5, 1) := by decide +kernel
theorem dX4_becomeFirst_15 : decode cX4_becomeFirst 15 = .ok (.invokestatic 34, 3) := by decide +kernel
theorem dX4_becomeFirst_18 : decode cX4_becomeFirst 18 = .ok (.aload_n 0, 1) := by decide +kernel
theorem dX4_becomeFirst_19 : decode cX4_becomeFirst 19 = .ok (.iconst 1, 1) := by decide +kernel
theorem dX4_becomeFirst_20 : decode cX4_becomeFirst 20 = .ok (.putfield 40, 3) := by decide +kernel
theorem dX4_becomeFirst_23 : decode cX4_becomeFirst 23 = .ok (.aload_n 0, 1) := by decide +kernel
theorem dX4_becomeFirst_24 : decode cX4_becomeFirst 24 = .ok (.iconst 4, 1) := by decide +kernel
theorem dX4_becomeFirst_25 : decode cX4_becomeFirst 25 = .ok (.putfield 43, 3) := by decide +kernel
theorem dX4_becomeFirst_28 : decode cX4_becomeFirst 28 = .ok (.return_, 1) := by decide +kernel
theorem dX4_take_0 : decode cX4_take 0 = .ok (.aload_n 0, 1) := by decide +kernel
theorem dX4_take_1 : decode cX4_take 1 = .ok (.aload_n 1, 1) := by decide +kernel
theorem dX4_take_2 : decode cX4_take 2 = .ok (.getfield 27, 3) := by decide +kernel
theorem dX4_take_5 : decode cX4_take 5 = .ok (.putfield 27, 3) := by decide +kernel
theorem dX4_take_8 : decode cX4_take 8 = .ok (.aload_n 1, 1) := by decide +kernel
theorem dX4_take_9 : decode cX4_take 9 = .ok (.getfield 9, 3) := by decide +kernel
theorem dX4_take_12 : decode cX4_take 12 = .ok (.iconst 0, 1) := by decide +kernel
theorem dX4_take_13 : decode cX4_take 13 = .ok (.aload_n 0, 1) := by decide +kernel
theorem dX4_take_14 : decode cX4_take 14 = .ok (.getfield 9, 3) := by decide +kernel
theorem dX4_take_17 : decode cX4_take 17 = .ok (.iconst 0, 1) := by decide +kernel
theorem dX4_take_18 : decode cX4_take 18 = .ok (.iconst 3, 1) := by decide +kernel
theorem dX4_take_19 : decode cX4_take 19 = .ok (.invokestatic 34, 3) := by decide +kernel
theorem dX4_take_22 : decode cX4_take 22 = .ok (.aload_n 1, 1) := by decide +kernel
theorem dX4_take_23 : decode cX4_take 23 = .ok (.getfield 15, 3) := by decide +kernel
theorem dX4_take_26 : decode cX4_take 26 = .ok (.iconst 0, 1) := by decide +kernel
theorem dX4_take_27 : decode cX4_take 27 = .ok (.aload_n 0, 1) := by decide +kernel
theorem dX4_take_28 : decode cX4_take 28 = .ok (.getfield 15, 3) := by decide +kernel
theorem dX4_take_31 : decode cX4_take 31 = .ok (.iconst 0, 1) := by decide +kernel
theorem dX4_take_32 : decode cX4_take 32 = .ok (.iconst 3, 1) := by decide +kernel
theorem dX4_take_33 : decode cX4_take 33 = .ok (.invokestatic 34, 3) := by decide +kernel
theorem dX4_take_36 : decode cX4_take 36 = .ok (.aload_n 1, 1) := by decide +kernel
theorem dX4_take_37 : decode cX4_take 37 = .ok (.getfield 18, 3) := by decide +kernel
theorem dX4_take_40 : decode cX4_take 40 = .ok (.iconst 0, 1) := by decide +kernel
theorem dX4_take_41 : decode cX4_take 41 = .ok (.aload_n 0, 1) := by decide +kernel
theorem dX4_take_42 : decode cX4_take 42 = .ok (.getfield 18, 3) := by decide +kernel
theorem dX4_take_45 : decode cX4_take 45 = .ok (.iconst 0, 1) := by decide +kernel
theorem dX4_take_46 : decode cX4_take 46 = .ok (.iconst 3, 1) := by decide +kernel
theorem dX4_take_47 : decode cX4_take 47 = .ok (.invokestatic 34, 3) := by decide +kernel
theorem dX4_take_50 : decode cX4_take 50 = .ok (.aload_n 1, 1) := by decide +kernel
theorem dX4_take_51 : decode cX4_take 51 = .ok (.getfield 21, 3) := by decide +kernel
theorem dX4_take_54 : decode cX4_take 54 = .ok (.iconst 0, 1) := by decide +kernel
theorem dX4_take_55 : decode cX4_take 55 = .ok (.aload_n 0, 1) := by decide +kernel
theorem dX4_take_56 : decode cX4_take 56 = .ok (.getfield 21, 3) := by decide +kernel
theorem dX4_take_59 : decode cX4_take 59 = .ok (.iconst 0, 1) := by decide +kernel
theorem dX4_take_60 : decode cX4_take 60 = .ok (.iconst 5, 1) := by decide +kernel
theorem dX4_take_61 : decode cX4_take 61 = .ok (.invokestatic 34, 3) := by decide +kernel
theorem dX4_take_64 : decode cX4_take 64 = .ok (.aload_n 0, 1) := by decide +kernel
theorem dX4_take_65 : decode cX4_take 65 = .ok (.aload_n 1, 1) := by decide +kernel
theorem dX4_take_66 : decode cX4_take 66 = .ok (.getfield 40, 3) := by decide +kernel
theorem dX4_take_69 : decode cX4_take 69 = .ok (.putfield 40, 3) := by decide +kernel
theorem dX4_take_72 : decode cX4_take 72 = .ok (.aload_n 0, 1) := by decide +kernel
theorem dX4_take_73 : decode cX4_take 73 = .ok (.aload_n 1, 1) := by decide +kernel
theorem dX4_take_74 : decode cX4_take 74 = .ok (.getfield 43, 3) := by decide +kernel
theorem dX4_take_77 : decode cX4_take 77 = .ok (.putfield 43, 3) := by decide +kernel
theorem dX4_take_80 : decode cX4_take 80 = .ok (.return_, 1) := by decide +kernel
theorem dX4_hasRulesOf_0 : decode cX4_hasRulesOf 0 = .ok (.aload_n 0, 1) := by decide +kernel
theorem dX4_hasRulesOf_1 : decode cX4_hasRulesOf 1 = .ok (.getfield 27, 3) := by decide +kernel
theorem dX4_hasRulesOf_4 : decode cX4_hasRulesOf 4 = .ok (.aload_n 1, 1) := by decide +kernel
theorem dX4_hasRulesOf_5 : decode cX4_hasRulesOf 5 = .ok (.getfield 27, 3) := by decide +kernel
theorem dX4_hasRulesOf_8 : decode cX4_hasRulesOf 8 = .ok (.if_icmp .eq 5, 3) := by decide +kernel
theorem dX4_hasRulesOf_11 : decode cX4_hasRulesOf 11 = .ok (.iconst 0, 1) := by decide +kernel
theorem dX4_hasRulesOf_12 : decode cX4_hasRulesOf 12 = .ok (.ireturn, 1) := by decide +kernel
theorem dX4_hasRulesOf_13 : decode cX4_hasRulesOf 13 = .ok (.iconst 0, 1) := by decide +kernel
theorem dX4_hasRulesOf_14 : decode cX4_hasRulesOf 14 = .ok (.istore_n 2, 1) := by decide +kernel
theorem dX4_hasRulesOf_15 : decode cX4_hasRulesOf 15 = .ok (.iload_n 2, 1) := by decide +kernel
theorem dX4_hasRulesOf_16 : decode cX4_hasRulesOf 16 = .ok (.aload_n 0, 1) := by decide +kernel
theorem dX4_hasRulesOf_17 : decode cX4_hasRulesOf 17 = .ok (.getfield 27, 3) := by decide +kernel
theorem dX4_hasRulesOf_20 : decode cX4_hasRulesOf 20 = .ok (.if_icmp .ge 61, 3) := by decide +kernel
theorem dX4_hasRulesOf_23 : decode cX4_hasRulesOf 23 = .ok (.iload_n 2, 1) := by decide +kernel
theorem dX4_hasRulesOf_24 : decode cX4_hasRulesOf 24 = .ok (.iconst 3, 1) := by decide +kernel
