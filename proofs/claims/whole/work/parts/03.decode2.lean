theorem dX10_fit_28 : decode cX10_fit 28 = .ok (.goto 4, 3) := by decide +kernel
theorem dX10_fit_31 : decode cX10_fit 31 = .ok (.iconst 0, 1) := by decide +kernel
theorem dX10_fit_32 : decode cX10_fit 32 = .ok (.istore_n 3, 1) := by decide +kernel
theorem dX10_fit_33 : decode cX10_fit 33 = .ok (.iload_n 3, 1) := by decide +kernel
theorem dX10_fit_34 : decode cX10_fit 34 = .ok (.iload_n 2, 1) := by decide +kernel
theorem dX10_fit_35 : decode cX10_fit 35 = .ok (.if_icmp .ne 10, 3) := by decide +kernel
theorem dX10_fit_38 : decode cX10_fit 38 = .ok (.iload 4, 2) := by decide +kernel
theorem dX10_fit_40 : decode cX10_fit 40 = .ok (.iload_n 2, 1) := by decide +kernel
theorem dX10_fit_41 : decode cX10_fit 41 = .ok (.isub, 1) := by decide +kernel
theorem dX10_fit_42 : decode cX10_fit 42 = .ok (.iconst 1, 1) := by decide +kernel
theorem dX10_fit_43 : decode cX10_fit 43 = .ok (.iadd, 1) := by decide +kernel
theorem dX10_fit_44 : decode cX10_fit 44 = .ok (.ireturn, 1) := by decide +kernel
theorem dX10_fit_45 : decode cX10_fit 45 = .ok (.iinc 4 1, 3) := by decide +kernel
theorem dX10_fit_48 : decode cX10_fit 48 = .ok (.goto (-43), 3) := by decide +kernel
theorem dX10_fit_51 : decode cX10_fit 51 = .ok (.iconst (-1), 1) := by decide +kernel
theorem dX10_fit_52 : decode cX10_fit 52 = .ok (.ireturn, 1) := by decide +kernel
theorem dX10_begin_0 : decode cX10_begin 0 = .ok (.aload_n 0, 1) := by decide +kernel
theorem dX10_begin_1 : decode cX10_begin 1 = .ok (.iconst 0, 1) := by decide +kernel
theorem dX10_begin_2 : decode cX10_begin 2 = .ok (.putfield 59, 3) := by decide +kernel
theorem dX10_begin_5 : decode cX10_begin 5 = .ok (.iconst 0, 1) := by decide +kernel
theorem dX10_begin_6 : decode cX10_begin 6 = .ok (.istore_n 1, 1) := by decide +kernel
theorem dX10_begin_7 : decode cX10_begin 7 = .ok (.iload_n 1, 1) := by decide +kernel
theorem dX10_begin_8 : decode cX10_begin 8 = .ok (.aload_n 0, 1) := by decide +kernel
theorem dX10_begin_9 : decode cX10_begin 9 = .ok (.getfield 62, 3) := by decide +kernel
theorem dX10_begin_12 : decode cX10_begin 12 = .ok (.if_icmp .ge 16, 3) := by decide +kernel
theorem dX10_begin_15 : decode cX10_begin 15 = .ok (.aload_n 0, 1) := by decide +kernel
theorem dX10_begin_16 : decode cX10_begin 16 = .ok (.getfield 35, 3) := by decide +kernel
theorem dX10_begin_19 : decode cX10_begin 19 = .ok (.iload_n 1, 1) := by decide +kernel
theorem dX10_begin_20 : decode cX10_begin 20 = .ok (.iconst (-1), 1) := by decide +kernel
theorem dX10_begin_21 : decode cX10_begin 21 = .ok (.iastore, 1) := by decide +kernel
theorem dX10_begin_22 : decode cX10_begin 22 = .ok (.iinc 1 1, 3) := by decide +kernel
theorem dX10_begin_25 : decode cX10_begin 25 = .ok (.goto (-18), 3) := by decide +kernel
theorem dX10_begin_28 : decode cX10_begin 28 = .ok (.return_, 1) := by decide +kernel
theorem dX10_meet_0 : decode cX10_meet 0 = .ok (.iload_n 1, 1) := by decide +kernel
theorem dX10_meet_1 : decode cX10_meet 1 = .ok (.iconst (-1), 1) := by decide +kernel
theorem dX10_meet_2 : decode cX10_meet 2 = .ok (.if_icmp .eq 43, 3) := by decide +kernel
theorem dX10_meet_5 : decode cX10_meet 5 = .ok (.aload_n 0, 1) := by decide +kernel
theorem dX10_meet_6 : decode cX10_meet 6 = .ok (.getfield 35, 3) := by decide +kernel
theorem dX10_meet_9 : decode cX10_meet 9 = .ok (.iload_n 1, 1) := by decide +kernel
theorem dX10_meet_10 : decode cX10_meet 10 = .ok (.iaload, 1) := by decide +kernel
theorem dX10_meet_11 : decode cX10_meet 11 = .ok (.iconst (-1), 1) := by decide +kernel
theorem dX10_meet_12 : decode cX10_meet 12 = .ok (.if_icmp .ne 33, 3) := by decide +kernel
theorem dX10_meet_15 : decode cX10_meet 15 = .ok (.aload_n 0, 1) := by decide +kernel
theorem dX10_meet_16 : decode cX10_meet 16 = .ok (.getfield 35, 3) := by decide +kernel
theorem dX10_meet_19 : decode cX10_meet 19 = .ok (.iload_n 1, 1) := by decide +kernel
theorem dX10_meet_20 : decode cX10_meet 20 = .ok (.aload_n 0, 1) := by decide +kernel
theorem dX10_meet_21 : decode cX10_meet 21 = .ok (.getfield 59, 3) := by decide +kernel
theorem dX10_meet_24 : decode cX10_meet 24 = .ok (.iastore, 1) := by decide +kernel
theorem dX10_meet_25 : decode cX10_meet 25 = .ok (.aload_n 0, 1) := by decide +kernel
theorem dX10_meet_26 : decode cX10_meet 26 = .ok (.getfield 32, 3) := by decide +kernel
theorem dX10_meet_29 : decode cX10_meet 29 = .ok (.aload_n 0, 1) := by decide +kernel
theorem dX10_meet_30 : decode cX10_meet 30 = .ok (.getfield 59, 3) := by decide +kernel
theorem dX10_meet_33 : decode cX10_meet 33 = .ok (.iload_n 1, 1) := by decide +kernel
theorem dX10_meet_34 : decode cX10_meet 34 = .ok (.iastore, 1) := by decide +kernel
theorem dX10_meet_35 : decode cX10_meet 35 = .ok (.aload_n 0, 1) := by decide +kernel
theorem dX10_meet_36 : decode cX10_meet 36 = .ok (.dup, 1) := by decide +kernel
theorem dX10_meet_37 : decode cX10_meet 37 = .ok (.getfield 59, 3) := by decide +kernel
theorem dX10_meet_40 : decode cX10_meet 40 = .ok (.iconst 1, 1) := by decide +kernel
theorem dX10_meet_41 : decode cX10_meet 41 = .ok (.iadd, 1) := by decide +kernel
theorem dX10_meet_42 : decode cX10_meet 42 = .ok (.putfield 59, 3) := by decide +kernel
theorem dX10_meet_45 : decode cX10_meet 45 = .ok (.return_, 1) := by decide +kernel
theorem dX10_follow_0 : decode cX10_follow 0 = .ok (.iconst 0, 1) := by decide +kernel
theorem dX10_follow_1 : decode cX10_follow 1 = .ok (.istore_n 1, 1) := by decide +kernel
theorem dX10_follow_2 : decode cX10_follow 2 = .ok (.iload_n 1, 1) := by decide +kernel
theorem dX10_follow_3 : decode cX10_follow 3 = .ok (.aload_n 0, 1) := by decide +kernel
theorem dX10_follow_4 : decode cX10_follow 4 = .ok (.getfield 59, 3) := by decide +kernel
theorem dX10_follow_7 : decode cX10_follow 7 = .ok (.if_icmp .ge 52, 3) := by decide +kernel
theorem dX10_follow_10 : decode cX10_follow 10 = .ok (.iconst 0, 1) := by decide +kernel
theorem dX10_follow_11 : decode cX10_follow 11 = .ok (.istore_n 2, 1) := by decide +kernel
theorem dX10_follow_12 : decode cX10_follow 12 = .ok (.iload_n 2, 1) := by decide +kernel
theorem dX10_follow_13 : decode cX10_follow 13 = .ok (.aload_n 0, 1) := by decide +kernel
theorem dX10_follow_14 : decode cX10_follow 14 = .ok (.getfield 13, 3) := by decide +kernel
theorem dX10_follow_17 : decode cX10_follow 17 = .ok (.aload_n 0, 1) := by decide +kernel
theorem dX10_follow_18 : decode cX10_follow 18 = .ok (.getfield 32, 3) := by decide +kernel
theorem dX10_follow_21 : decode cX10_follow 21 = .ok (.iload_n 1, 1) := by decide +kernel
theorem dX10_follow_22 : decode cX10_follow 22 = .ok (.iaload, 1) := by decide +kernel
theorem dX10_follow_23 : decode cX10_follow 23 = .ok (.iaload, 1) := by decide +kernel
theorem dX10_follow_24 : decode cX10_follow 24 = .ok (.if_icmp .ge 29, 3) := by decide +kernel
theorem dX10_follow_27 : decode cX10_follow 27 = .ok (.aload_n 0, 1) := by decide +kernel
theorem dX10_follow_28 : decode cX10_follow 28 = .ok (.aload_n 0, 1) := by decide +kernel
theorem dX10_follow_29 : decode cX10_follow 29 = .ok (.getfield 23, 3) := by decide +kernel
theorem dX10_follow_32 : decode cX10_follow 32 = .ok (.bipush 6, 2) := by decide +kernel
theorem dX10_follow_34 : decode cX10_follow 34 = .ok (.aload_n 0, 1) := by decide +kernel
theorem dX10_follow_35 : decode cX10_follow 35 = .ok (.getfield 32, 3) := by decide +kernel
theorem dX10_follow_38 : decode cX10_follow 38 = .ok (.iload_n 1, 1) := by decide +kernel
theorem dX10_follow_39 : decode cX10_follow 39 = .ok (.iaload, 1) := by decide +kernel
theorem dX10_follow_40 : decode cX10_follow 40 = .ok (.imul, 1) := by decide +kernel
theorem dX10_follow_41 : decode cX10_follow 41 = .ok (.iload_n 2, 1) := by decide +kernel
theorem dX10_follow_42 : decode cX10_follow 42 = .ok (.iadd, 1) := by decide +kernel
theorem dX10_follow_43 : decode cX10_follow 43 = .ok (.iaload, 1) := by decide +kernel
theorem dX10_follow_44 : decode cX10_follow 44 = .ok (.invokevirtual 65, 3) := by decide +kernel
theorem dX10_follow_47 : decode cX10_follow 47 = .ok (.iinc 2 1, 3) := by decide +kernel
theorem dX10_follow_50 : decode cX10_follow 50 = .ok (.goto (-38), 3) := by decide +kernel
theorem dX10_follow_53 : decode cX10_follow 53 = .ok (.iinc 1 1, 3) := by decide +kernel
theorem dX10_follow_56 : decode cX10_follow 56 = .ok (.goto (-54), 3) := by decide +kernel
theorem dX10_follow_59 : decode cX10_follow 59 = .ok (.return_, 1) := by decide +kernel
theorem dX10_reach_0 : decode cX10_reach 0 = .ok (.aload_n 0, 1) := by decide +kernel
theorem dX10_reach_1 : decode cX10_reach 1 = .ok (.invokevirtual 68, 3) := by decide +kernel
theorem dX10_reach_4 : decode cX10_reach 4 = .ok (.iconst 0, 1) := by decide +kernel
theorem dX10_reach_5 : decode cX10_reach 5 = .ok (.istore_n 1, 1) := by decide +kernel
theorem dX10_reach_6 : decode cX10_reach 6 = .ok (.iload_n 1, 1) := by decide +kernel
theorem dX10_reach_7 : decode cX10_reach 7 = .ok (.bipush 16, 2) := by decide +kernel
theorem dX10_reach_9 : decode cX10_reach 9 = .ok (.if_icmp .ge 19, 3) := by decide +kernel
theorem dX10_reach_12 : decode cX10_reach 12 = .ok (.aload_n 0, 1) := by decide +kernel
theorem dX10_reach_13 : decode cX10_reach 13 = .ok (.aload_n 0, 1) := by decide +kernel
theorem dX10_reach_14 : decode cX10_reach 14 = .ok (.getfield 26, 3) := by decide +kernel
theorem dX10_reach_17 : decode cX10_reach 17 = .ok (.iload_n 1, 1) := by decide +kernel
theorem dX10_reach_18 : decode cX10_reach 18 = .ok (.iaload, 1) := by decide +kernel
theorem dX10_reach_19 : decode cX10_reach 19 = .ok (.invokevirtual 65, 3) := by decide +kernel
theorem dX10_reach_22 : decode cX10_reach 22 = .ok (.iinc 1 1, 3) := by decide +kernel
theorem dX10_reach_25 : decode cX10_reach 25 = .ok (.goto (-19), 3) := by decide +kernel
theorem dX10_reach_28 : decode cX10_reach 28 = .ok (.aload_n 0, 1) := by decide +kernel
theorem dX10_reach_29 : decode cX10_reach 29 = .ok (.invokevirtual 71, 3) := by decide +kernel
theorem dX10_reach_32 : decode cX10_reach 32 = .ok (.return_, 1) := by decide +kernel
theorem dX10_sweep_0 : decode cX10_sweep 0 = .ok (.iconst 0, 1) := by decide +kernel
theorem dX10_sweep_1 : decode cX10_sweep 1 = .ok (.istore_n 2, 1) := by decide +kernel
theorem dX10_sweep_2 : decode cX10_sweep 2 = .ok (.iconst 0, 1) := by decide +kernel
theorem dX10_sweep_3 : decode cX10_sweep 3 = .ok (.istore_n 3, 1) := by decide +kernel
theorem dX10_sweep_4 : decode cX10_sweep 4 = .ok (.iload_n 3, 1) := by decide +kernel
theorem dX10_sweep_5 : decode cX10_sweep 5 = .ok (.aload_n 0, 1) := by decide +kernel
theorem dX10_sweep_6 : decode cX10_sweep 6 = .ok (.getfield 62, 3) := by decide +kernel
theorem dX10_sweep_9 : decode cX10_sweep 9 = .ok (.if_icmp .ge 49, 3) := by decide +kernel
theorem dX10_sweep_12 : decode cX10_sweep 12 = .ok (.aload_n 0, 1) := by decide +kernel
theorem dX10_sweep_13 : decode cX10_sweep 13 = .ok (.getfield 7, 3) := by decide +kernel
theorem dX10_sweep_16 : decode cX10_sweep 16 = .ok (.iload_n 3, 1) := by decide +kernel
theorem dX10_sweep_17 : decode cX10_sweep 17 = .ok (.iaload, 1) := by decide +kernel
theorem dX10_sweep_18 : decode cX10_sweep 18 = .ok (.iconst (-1), 1) := by decide +kernel
theorem dX10_sweep_19 : decode cX10_sweep 19 = .ok (.if_icmp .eq 33, 3) := by decide +kernel
theorem dX10_sweep_22 : decode cX10_sweep 22 = .ok (.aload_n 0, 1) := by decide +kernel
theorem dX10_sweep_23 : decode cX10_sweep 23 = .ok (.getfield 35, 3) := by decide +kernel
theorem dX10_sweep_26 : decode cX10_sweep 26 = .ok (.iload_n 3, 1) := by decide +kernel
theorem dX10_sweep_27 : decode cX10_sweep 27 = .ok (.iaload, 1) := by decide +kernel
theorem dX10_sweep_28 : decode cX10_sweep 28 = .ok (.iconst (-1), 1) := by decide +kernel
theorem dX10_sweep_29 : decode cX10_sweep 29 = .ok (.if_icmp .ne 23, 3) := by decide +kernel
theorem dX10_sweep_32 : decode cX10_sweep 32 = .ok (.iload_n 1, 1) := by decide +kernel
theorem dX10_sweep_33 : decode cX10_sweep 33 = .ok (.ifCond .eq 11, 3) := by decide +kernel
theorem dX10_sweep_36 : decode cX10_sweep 36 = .ok (.aload_n 0, 1) := by decide +kernel
theorem dX10_sweep_37 : decode cX10_sweep 37 = .ok (.iload_n 3, 1) := by decide +kernel
theorem dX10_sweep_38 : decode cX10_sweep 38 = .ok (.invokevirtual 74, 3) := by decide +kernel
theorem dX10_sweep_41 : decode cX10_sweep 41 = .ok (.ifCond .eq 11, 3) := by decide +kernel
theorem dX10_sweep_44 : decode cX10_sweep 44 = .ok (.aload_n 0, 1) := by decide +kernel
theorem dX10_sweep_45 : decode cX10_sweep 45 = .ok (.iload_n 3, 1) := by decide +kernel
theorem dX10_sweep_46 : decode cX10_sweep 46 = .ok (.invokevirtual 78, 3) := by decide +kernel
theorem dX10_sweep_49 : decode cX10_sweep 49 = .ok (.iinc 2 1, 3) := by decide +kernel
theorem dX10_sweep_52 : decode cX10_sweep 52 = .ok (.iinc 3 1, 3) := by decide +kernel
theorem dX10_sweep_55 : decode cX10_sweep 55 = .ok (.goto (-51), 3) := by decide +kernel
theorem dX10_sweep_58 : decode cX10_sweep 58 = .ok (.iload_n 2, 1) := by decide +kernel
theorem dX10_sweep_59 : decode cX10_sweep 59 = .ok (.ireturn, 1) := by decide +kernel
theorem dX10_copyAll_0 : decode cX10_copyAll 0 = .ok (.aload_n 0, 1) := by decide +kernel
theorem dX10_copyAll_1 : decode cX10_copyAll 1 = .ok (.invokevirtual 81, 3) := by decide +kernel
theorem dX10_copyAll_4 : decode cX10_copyAll 4 = .ok (.aload_n 0, 1) := by decide +kernel
theorem dX10_copyAll_5 : decode cX10_copyAll 5 = .ok (.iconst 0, 1) := by decide +kernel
theorem dX10_copyAll_6 : decode cX10_copyAll 6 = .ok (.invokevirtual 84, 3) := by decide +kernel
theorem dX10_copyAll_9 : decode cX10_copyAll 9 = .ok (.istore_n 1, 1) := by decide +kernel
theorem dX10_copyAll_10 : decode cX10_copyAll 10 = .ok (.iconst 0, 1) := by decide +kernel
theorem dX10_copyAll_11 : decode cX10_copyAll 11 = .ok (.istore_n 2, 1) := by decide +kernel
theorem dX10_copyAll_12 : decode cX10_copyAll 12 = .ok (.iload_n 2, 1) := by decide +kernel
theorem dX10_copyAll_13 : decode cX10_copyAll 13 = .ok (.aload_n 0, 1) := by decide +kernel
theorem dX10_copyAll_14 : decode cX10_copyAll 14 = .ok (.getfield 59, 3) := by decide +kernel
theorem dX10_copyAll_17 : decode cX10_copyAll 17 = .ok (.if_icmp .ge 19, 3) := by decide +kernel
theorem dX10_copyAll_20 : decode cX10_copyAll 20 = .ok (.aload_n 0, 1) := by decide +kernel
theorem dX10_copyAll_21 : decode cX10_copyAll 21 = .ok (.aload_n 0, 1) := by decide +kernel
theorem dX10_copyAll_22 : decode cX10_copyAll 22 = .ok (.getfield 32, 3) := by decide +kernel
theorem dX10_copyAll_25 : decode cX10_copyAll 25 = .ok (.iload_n 2, 1) := by decide +kernel
theorem dX10_copyAll_26 : decode cX10_copyAll 26 = .ok (.iaload, 1) := by decide +kernel
theorem dX10_copyAll_27 : decode cX10_copyAll 27 = .ok (.invokevirtual 55, 3) := by decide +kernel
theorem dX10_copyAll_30 : decode cX10_copyAll 30 = .ok (.iinc 2 1, 3) := by decide +kernel
theorem dX10_copyAll_33 : decode cX10_copyAll 33 = .ok (.goto (-21), 3) := by decide +kernel
theorem dX10_copyAll_36 : decode cX10_copyAll 36 = .ok (.aload_n 0, 1) := by decide +kernel
theorem dX10_copyAll_37 : decode cX10_copyAll 37 = .ok (.iconst 1, 1) := by decide +kernel
theorem dX10_copyAll_38 : decode cX10_copyAll 38 = .ok (.aload_n 0, 1) := by decide +kernel
theorem dX10_copyAll_39 : decode cX10_copyAll 39 = .ok (.getfield 88, 3) := by decide +kernel
theorem dX10_copyAll_42 : decode cX10_copyAll 42 = .ok (.isub, 1) := by decide +kernel
theorem dX10_copyAll_43 : decode cX10_copyAll 43 = .ok (.putfield 88, 3) := by decide +kernel
theorem dX10_copyAll_46 : decode cX10_copyAll 46 = .ok (.aload_n 0, 1) := by decide +kernel
theorem dX10_copyAll_47 : decode cX10_copyAll 47 = .ok (.aload_n 0, 1) := by decide +kernel
theorem dX10_copyAll_48 : decode cX10_copyAll 48 = .ok (.getfield 88, 3) := by decide +kernel
theorem dX10_copyAll_51 : decode cX10_copyAll 51 = .ok (.aload_n 0, 1) := by decide +kernel
theorem dX10_copyAll_52 : decode cX10_copyAll 52 = .ok (.getfield 45, 3) := by decide +kernel
theorem dX10_copyAll_55 : decode cX10_copyAll 55 = .ok (.iconst 2, 1) := by decide +kernel
theorem dX10_copyAll_56 : decode cX10_copyAll 56 = .ok (.idiv, 1) := by decide +kernel
theorem dX10_copyAll_57 : decode cX10_copyAll 57 = .ok (.imul, 1) := by decide +kernel
theorem dX10_copyAll_58 : decode cX10_copyAll 58 = .ok (.putfield 91, 3) := by decide +kernel
theorem dX10_copyAll_61 : decode cX10_copyAll 61 = .ok (.iconst 0, 1) := by decide +kernel
theorem dX10_copyAll_62 : decode cX10_copyAll 62 = .ok (.istore_n 2, 1) := by decide +kernel
theorem dX10_copyAll_63 : decode cX10_copyAll 63 = .ok (.iload_n 2, 1) := by decide +kernel
theorem dX10_copyAll_64 : decode cX10_copyAll 64 = .ok (.aload_n 0, 1) := by decide +kernel
theorem dX10_copyAll_65 : decode cX10_copyAll 65 = .ok (.getfield 59, 3) := by decide +kernel
theorem dX10_copyAll_68 : decode cX10_copyAll 68 = .ok (.if_icmp .ge 55, 3) := by decide +kernel
theorem dX10_copyAll_71 : decode cX10_copyAll 71 = .ok (.aload_n 0, 1) := by decide +kernel
theorem dX10_copyAll_72 : decode cX10_copyAll 72 = .ok (.aload_n 0, 1) := by decide +kernel
theorem dX10_copyAll_73 : decode cX10_copyAll 73 = .ok (.getfield 32, 3) := by decide +kernel
theorem dX10_copyAll_76 : decode cX10_copyAll 76 = .ok (.iload_n 2, 1) := by decide +kernel
theorem dX10_copyAll_77 : decode cX10_copyAll 77 = .ok (.iaload, 1) := by decide +kernel
theorem dX10_copyAll_78 : decode cX10_copyAll 78 = .ok (.aload_n 0, 1) := by decide +kernel
theorem dX10_copyAll_79 : decode cX10_copyAll 79 = .ok (.getfield 91, 3) := by decide +kernel
theorem dX10_copyAll_82 : decode cX10_copyAll 82 = .ok (.invokevirtual 94, 3) := by decide +kernel
theorem dX10_copyAll_85 : decode cX10_copyAll 85 = .ok (.aload_n 0, 1) := by decide +kernel
theorem dX10_copyAll_86 : decode cX10_copyAll 86 = .ok (.dup, 1) := by decide +kernel
theorem dX10_copyAll_87 : decode cX10_copyAll 87 = .ok (.getfield 91, 3) := by decide +kernel
theorem dX10_copyAll_90 : decode cX10_copyAll 90 = .ok (.iconst 1, 1) := by decide +kernel
theorem dX10_copyAll_91 : decode cX10_copyAll 91 = .ok (.aload_n 0, 1) := by decide +kernel
theorem dX10_copyAll_92 : decode cX10_copyAll 92 = .ok (.getfield 13, 3) := by decide +kernel
theorem dX10_copyAll_95 : decode cX10_copyAll 95 = .ok (.aload_n 0, 1) := by decide +kernel
theorem dX10_copyAll_96 : decode cX10_copyAll 96 = .ok (.getfield 32, 3) := by decide +kernel
theorem dX10_copyAll_99 : decode cX10_copyAll 99 = .ok (.iload_n 2, 1) := by decide +kernel
theorem dX10_copyAll_100 : decode cX10_copyAll 100 = .ok (.iaload, 1) := by decide +kernel
theorem dX10_copyAll_101 : decode cX10_copyAll 101 = .ok (.iaload, 1) := by decide +kernel
theorem dX10_copyAll_102 : decode cX10_copyAll 102 = .ok (.iadd, 1) := by decide +kernel
theorem dX10_copyAll_103 : decode cX10_copyAll 103 = .ok (.iadd, 1) := by decide +kernel
theorem dX10_copyAll_104 : decode cX10_copyAll 104 = .ok (.putfield 91, 3) := by decide +kernel
theorem dX10_copyAll_107 : decode cX10_copyAll 107 = .ok (.aload_n 0, 1) := by decide +kernel
theorem dX10_copyAll_108 : decode cX10_copyAll 108 = .ok (.dup, 1) := by decide +kernel
theorem dX10_copyAll_109 : decode cX10_copyAll 109 = .ok (.getfield 98, 3) := by decide +kernel
theorem dX10_copyAll_112 : decode cX10_copyAll 112 = .ok (.iconst 1, 1) := by decide +kernel
theorem dX10_copyAll_113 : decode cX10_copyAll 113 = .ok (.iadd, 1) := by decide +kernel
theorem dX10_copyAll_114 : decode cX10_copyAll 114 = .ok (.putfield 98, 3) := by decide +kernel
theorem dX10_copyAll_117 : decode cX10_copyAll 117 = .ok (.iinc 2 1, 3) := by decide +kernel
theorem dX10_copyAll_120 : decode cX10_copyAll 120 = .ok (.goto (-57), 3) := by decide +kernel
theorem dX10_copyAll_123 : decode cX10_copyAll 123 = .ok (.iload_n 1, 1) := by decide +kernel
theorem dX10_copyAll_124 : decode cX10_copyAll 124 = .ok (.ireturn, 1) := by decide +kernel
theorem dX10_raise_0 : decode cX10_raise 0 = .ok (.iload_n 1, 1) := by decide +kernel
theorem dX10_raise_1 : decode cX10_raise 1 = .ok (.iconst (-1), 1) := by decide +kernel
theorem dX10_raise_2 : decode cX10_raise 2 = .ok (.if_icmp .eq 21, 3) := by decide +kernel
theorem dX10_raise_5 : decode cX10_raise 5 = .ok (.aload_n 0, 1) := by decide +kernel
theorem dX10_raise_6 : decode cX10_raise 6 = .ok (.getfield 35, 3) := by decide +kernel
theorem dX10_raise_9 : decode cX10_raise 9 = .ok (.iload_n 1, 1) := by decide +kernel
theorem dX10_raise_10 : decode cX10_raise 10 = .ok (.iaload, 1) := by decide +kernel
theorem dX10_raise_11 : decode cX10_raise 11 = .ok (.iconst (-1), 1) := by decide +kernel
theorem dX10_raise_12 : decode cX10_raise 12 = .ok (.if_icmp .ne 11, 3) := by decide +kernel
theorem dX10_raise_15 : decode cX10_raise 15 = .ok (.aload_n 0, 1) := by decide +kernel
theorem dX10_raise_16 : decode cX10_raise 16 = .ok (.iload_n 1, 1) := by decide +kernel
theorem dX10_raise_17 : decode cX10_raise 17 = .ok (.invokevirtual 74, 3) := by decide +kernel
theorem dX10_raise_20 : decode cX10_raise 20 = .ok (.ifCond .eq 5, 3) := by decide +kernel
theorem dX10_raise_23 : decode cX10_raise 23 = .ok (.iconst 1, 1) := by decide +kernel
theorem dX10_raise_24 : decode cX10_raise 24 = .ok (.ireturn, 1) := by decide +kernel
theorem dX10_raise_25 : decode cX10_raise 25 = .ok (.aload_n 0, 1) := by decide +kernel
theorem dX10_raise_26 : decode cX10_raise 26 = .ok (.aload_n 0, 1) := by decide +kernel
theorem dX10_raise_27 : decode cX10_raise 27 = .ok (.getfield 45, 3) := by decide +kernel
theorem dX10_raise_30 : decode cX10_raise 30 = .ok (.iconst 4, 1) := by decide +kernel
theorem dX10_raise_31 : decode cX10_raise 31 = .ok (.idiv, 1) := by decide +kernel
theorem dX10_raise_32 : decode cX10_raise 32 = .ok (.iconst 1, 1) := by decide +kernel
theorem dX10_raise_33 : decode cX10_raise 33 = .ok (.aload_n 0, 1) := by decide +kernel
theorem dX10_raise_34 : decode cX10_raise 34 = .ok (.getfield 13, 3) := by decide +kernel
theorem dX10_raise_37 : decode cX10_raise 37 = .ok (.iload_n 1, 1) := by decide +kernel
theorem dX10_raise_38 : decode cX10_raise 38 = .ok (.iaload, 1) := by decide +kernel
theorem dX10_raise_39 : decode cX10_raise 39 = .ok (.iadd, 1) := by decide +kernel
theorem dX10_raise_40 : decode cX10_raise 40 = .ok (.invokevirtual 101, 3) := by decide +kernel
theorem dX10_raise_43 : decode cX10_raise 43 = .ok (.istore_n 2, 1) := by decide +kernel
theorem dX10_raise_44 : decode cX10_raise 44 = .ok (.iload_n 2, 1) := by decide +kernel
theorem dX10_raise_45 : decode cX10_raise 45 = .ok (.iconst (-1), 1) := by decide +kernel
theorem dX10_raise_46 : decode cX10_raise 46 = .ok (.if_icmp .ne 5, 3) := by decide +kernel
theorem dX10_raise_49 : decode cX10_raise 49 = .ok (.iconst 0, 1) := by decide +kernel
theorem dX10_raise_50 : decode cX10_raise 50 = .ok (.ireturn, 1) := by decide +kernel
theorem dX10_raise_51 : decode cX10_raise 51 = .ok (.aload_n 0, 1) := by decide +kernel
theorem dX10_raise_52 : decode cX10_raise 52 = .ok (.getfield 38, 3) := by decide +kernel
theorem dX10_raise_55 : decode cX10_raise 55 = .ok (.aload_n 0, 1) := by decide +kernel
theorem dX10_raise_56 : decode cX10_raise 56 = .ok (.getfield 59, 3) := by decide +kernel
theorem dX10_raise_59 : decode cX10_raise 59 = .ok (.aload_n 0, 1) := by decide +kernel
theorem dX10_raise_60 : decode cX10_raise 60 = .ok (.getfield 7, 3) := by decide +kernel
theorem dX10_raise_63 : decode cX10_raise 63 = .ok (.iload_n 1, 1) := by decide +kernel
theorem dX10_raise_64 : decode cX10_raise 64 = .ok (.iaload, 1) := by decide +kernel
theorem dX10_raise_65 : decode cX10_raise 65 = .ok (.iastore, 1) := by decide +kernel
theorem dX10_raise_66 : decode cX10_raise 66 = .ok (.aload_n 0, 1) := by decide +kernel
theorem dX10_raise_67 : decode cX10_raise 67 = .ok (.iload_n 1, 1) := by decide +kernel
theorem dX10_raise_68 : decode cX10_raise 68 = .ok (.invokevirtual 55, 3) := by decide +kernel
theorem dX10_raise_71 : decode cX10_raise 71 = .ok (.aload_n 0, 1) := by decide +kernel
theorem dX10_raise_72 : decode cX10_raise 72 = .ok (.iload_n 1, 1) := by decide +kernel
theorem dX10_raise_73 : decode cX10_raise 73 = .ok (.invokevirtual 65, 3) := by decide +kernel
theorem dX10_raise_76 : decode cX10_raise 76 = .ok (.aload_n 0, 1) := by decide +kernel
theorem dX10_raise_77 : decode cX10_raise 77 = .ok (.iload_n 1, 1) := by decide +kernel
theorem dX10_raise_78 : decode cX10_raise 78 = .ok (.iload_n 2, 1) := by decide +kernel
theorem dX10_raise_79 : decode cX10_raise 79 = .ok (.invokevirtual 94, 3) := by decide +kernel
theorem dX10_raise_82 : decode cX10_raise 82 = .ok (.iconst 1, 1) := by decide +kernel
theorem dX10_raise_83 : decode cX10_raise 83 = .ok (.ireturn, 1) := by decide +kernel
theorem dX10_raiseFields_0 : decode cX10_raiseFields 0 = .ok (.iconst 1, 1) := by decide +kernel
theorem dX10_raiseFields_1 : decode cX10_raiseFields 1 = .ok (.istore_n 2, 1) := by decide +kernel
theorem dX10_raiseFields_2 : decode cX10_raiseFields 2 = .ok (.iconst 0, 1) := by decide +kernel
theorem dX10_raiseFields_3 : decode cX10_raiseFields 3 = .ok (.istore_n 3, 1) := by decide +kernel
theorem dX10_raiseFields_4 : decode cX10_raiseFields 4 = .ok (.iload_n 3, 1) := by decide +kernel
theorem dX10_raiseFields_5 : decode cX10_raiseFields 5 = .ok (.aload_n 0, 1) := by decide +kernel
theorem dX10_raiseFields_6 : decode cX10_raiseFields 6 = .ok (.getfield 13, 3) := by decide +kernel
theorem dX10_raiseFields_9 : decode cX10_raiseFields 9 = .ok (.iload_n 1, 1) := by decide +kernel
theorem dX10_raiseFields_10 : decode cX10_raiseFields 10 = .ok (.iaload, 1) := by decide +kernel
theorem dX10_raiseFields_11 : decode cX10_raiseFields 11 = .ok (.if_icmp .ge 29, 3) := by decide +kernel
theorem dX10_raiseFields_14 : decode cX10_raiseFields 14 = .ok (.iload_n 2, 1) := by decide +kernel
theorem dX10_raiseFields_15 : decode cX10_raiseFields 15 = .ok (.ifCond .eq 25, 3) := by decide +kernel
theorem dX10_raiseFields_18 : decode cX10_raiseFields 18 = .ok (.aload_n 0, 1) := by decide +kernel
theorem dX10_raiseFields_19 : decode cX10_raiseFields 19 = .ok (.aload_n 0, 1) := by decide +kernel
theorem dX10_raiseFields_20 : decode cX10_raiseFields 20 = .ok (.getfield 23, 3) := by decide +kernel
theorem dX10_raiseFields_23 : decode cX10_raiseFields 23 = .ok (.bipush 6, 2) := by decide +kernel
theorem dX10_raiseFields_25 : decode cX10_raiseFields 25 = .ok (.iload_n 1, 1) := by decide +kernel
theorem dX10_raiseFields_26 : decode cX10_raiseFields 26 = .ok (.imul, 1) := by decide +kernel
theorem dX10_raiseFields_27 : decode cX10_raiseFields 27 = .ok (.iload_n 3, 1) := by decide +kernel
theorem dX10_raiseFields_28 : decode cX10_raiseFields 28 = .ok (.iadd, 1) := by decide +kernel
theorem dX10_raiseFields_29 : decode cX10_raiseFields 29 = .ok (.iaload, 1) := by decide +kernel
theorem dX10_raiseFields_30 : decode cX10_raiseFields 30 = .ok (.invokevirtual 105, 3) := by decide +kernel
theorem dX10_raiseFields_33 : decode cX10_raiseFields 33 = .ok (.istore_n 2, 1) := by decide +kernel
theorem dX10_raiseFields_34 : decode cX10_raiseFields 34 = .ok (.iinc 3 1, 3) := by decide +kernel
theorem dX10_raiseFields_37 : decode cX10_raiseFields 37 = .ok (.goto (-33), 3) := by decide +kernel
theorem dX10_raiseFields_40 : decode cX10_raiseFields 40 = .ok (.iload_n 2, 1) := by decide +kernel
theorem dX10_raiseFields_41 : decode cX10_raiseFields 41 = .ok (.ireturn, 1) := by decide +kernel
theorem dX10_minorNow_0 : decode cX10_minorNow 0 = .ok (.aload_n 0, 1) := by decide +kernel
theorem dX10_minorNow_1 : decode cX10_minorNow 1 = .ok (.invokevirtual 68, 3) := by decide +kernel
theorem dX10_minorNow_4 : decode cX10_minorNow 4 = .ok (.iconst 1, 1) := by decide +kernel
theorem dX10_minorNow_5 : decode cX10_minorNow 5 = .ok (.istore_n 1, 1) := by decide +kernel
theorem dX10_minorNow_6 : decode cX10_minorNow 6 = .ok (.iconst 0, 1) := by decide +kernel
theorem dX10_minorNow_7 : decode cX10_minorNow 7 = .ok (.istore_n 2, 1) := by decide +kernel
theorem dX10_minorNow_8 : decode cX10_minorNow 8 = .ok (.iload_n 2, 1) := by decide +kernel
theorem dX10_minorNow_9 : decode cX10_minorNow 9 = .ok (.bipush 16, 2) := by decide +kernel
theorem dX10_minorNow_11 : decode cX10_minorNow 11 = .ok (.if_icmp .ge 24, 3) := by decide +kernel
theorem dX10_minorNow_14 : decode cX10_minorNow 14 = .ok (.iload_n 1, 1) := by decide +kernel
theorem dX10_minorNow_15 : decode cX10_minorNow 15 = .ok (.ifCond .eq 20, 3) := by decide +kernel
theorem dX10_minorNow_18 : decode cX10_minorNow 18 = .ok (.aload_n 0, 1) := by decide +kernel
theorem dX10_minorNow_19 : decode cX10_minorNow 19 = .ok (.aload_n 0, 1) := by decide +kernel
theorem dX10_minorNow_20 : decode cX10_minorNow 20 = .ok (.getfield 26, 3) := by decide +kernel
theorem dX10_minorNow_23 : decode cX10_minorNow 23 = .ok (.iload_n 2, 1) := by decide +kernel
theorem dX10_minorNow_24 : decode cX10_minorNow 24 = .ok (.iaload, 1) := by decide +kernel
theorem dX10_minorNow_25 : decode cX10_minorNow 25 = .ok (.invokevirtual 105, 3) := by decide +kernel
theorem dX10_minorNow_28 : decode cX10_minorNow 28 = .ok (.istore_n 1, 1) := by decide +kernel
theorem dX10_minorNow_29 : decode cX10_minorNow 29 = .ok (.iinc 2 1, 3) := by decide +kernel
theorem dX10_minorNow_32 : decode cX10_minorNow 32 = .ok (.goto (-24), 3) := by decide +kernel
theorem dX10_minorNow_35 : decode cX10_minorNow 35 = .ok (.aload_n 0, 1) := by decide +kernel
theorem dX10_minorNow_36 : decode cX10_minorNow 36 = .ok (.getfield 45, 3) := by decide +kernel
theorem dX10_minorNow_39 : decode cX10_minorNow 39 = .ok (.iconst 4, 1) := by decide +kernel
theorem dX10_minorNow_40 : decode cX10_minorNow 40 = .ok (.idiv, 1) := by decide +kernel
theorem dX10_minorNow_41 : decode cX10_minorNow 41 = .ok (.istore_n 2, 1) := by decide +kernel
theorem dX10_minorNow_42 : decode cX10_minorNow 42 = .ok (.iload_n 2, 1) := by decide +kernel
theorem dX10_minorNow_43 : decode cX10_minorNow 43 = .ok (.aload_n 0, 1) := by decide +kernel
theorem dX10_minorNow_44 : decode cX10_minorNow 44 = .ok (.getfield 45, 3) := by decide +kernel
theorem dX10_minorNow_47 : decode cX10_minorNow 47 = .ok (.if_icmp .ge 58, 3) := by decide +kernel
theorem dX10_minorNow_50 : decode cX10_minorNow 50 = .ok (.iload_n 1, 1) := by decide +kernel
theorem dX10_minorNow_51 : decode cX10_minorNow 51 = .ok (.ifCond .eq 54, 3) := by decide +kernel
theorem dX10_minorNow_54 : decode cX10_minorNow 54 = .ok (.aload_n 0, 1) := by decide +kernel
theorem dX10_minorNow_55 : decode cX10_minorNow 55 = .ok (.getfield 29, 3) := by decide +kernel
theorem dX10_minorNow_58 : decode cX10_minorNow 58 = .ok (.iload_n 2, 1) := by decide +kernel
theorem dX10_minorNow_59 : decode cX10_minorNow 59 = .ok (.iaload, 1) := by decide +kernel
theorem dX10_minorNow_60 : decode cX10_minorNow 60 = .ok (.istore_n 3, 1) := by decide +kernel
theorem dX10_minorNow_61 : decode cX10_minorNow 61 = .ok (.iload_n 3, 1) := by decide +kernel
theorem dX10_minorNow_62 : decode cX10_minorNow 62 = .ok (.iconst (-1), 1) := by decide +kernel
theorem dX10_minorNow_63 : decode cX10_minorNow 63 = .ok (.if_icmp .eq 30, 3) := by decide +kernel
theorem dX10_minorNow_66 : decode cX10_minorNow 66 = .ok (.aload_n 0, 1) := by decide +kernel
theorem dX10_minorNow_67 : decode cX10_minorNow 67 = .ok (.getfield 7, 3) := by decide +kernel
theorem dX10_minorNow_70 : decode cX10_minorNow 70 = .ok (.iload_n 3, 1) := by decide +kernel
theorem dX10_minorNow_71 : decode cX10_minorNow 71 = .ok (.iaload, 1) := by decide +kernel
theorem dX10_minorNow_72 : decode cX10_minorNow 72 = .ok (.iload_n 2, 1) := by decide +kernel
theorem dX10_minorNow_73 : decode cX10_minorNow 73 = .ok (.if_icmp .ne 20, 3) := by decide +kernel
theorem dX10_minorNow_76 : decode cX10_minorNow 76 = .ok (.aload_n 0, 1) := by decide +kernel
theorem dX10_minorNow_77 : decode cX10_minorNow 77 = .ok (.getfield 16, 3) := by decide +kernel
theorem dX10_minorNow_80 : decode cX10_minorNow 80 = .ok (.iload_n 3, 1) := by decide +kernel
theorem dX10_minorNow_81 : decode cX10_minorNow 81 = .ok (.baload, 1) := by decide +kernel
theorem dX10_minorNow_82 : decode cX10_minorNow 82 = .ok (.ifCond .eq 11, 3) := by decide +kernel
theorem dX10_minorNow_85 : decode cX10_minorNow 85 = .ok (.aload_n 0, 1) := by decide +kernel
theorem dX10_minorNow_86 : decode cX10_minorNow 86 = .ok (.iload_n 3, 1) := by decide +kernel
theorem dX10_minorNow_87 : decode cX10_minorNow 87 = .ok (.invokevirtual 108, 3) := by decide +kernel
theorem dX10_minorNow_90 : decode cX10_minorNow 90 = .ok (.ifCond .eq 7, 3) := by decide +kernel
theorem dX10_minorNow_93 : decode cX10_minorNow 93 = .ok (.iconst 1, 1) := by decide +kernel
theorem dX10_minorNow_94 : decode cX10_minorNow 94 = .ok (.goto 4, 3) := by decide +kernel
theorem dX10_minorNow_97 : decode cX10_minorNow 97 = .ok (.iconst 0, 1) := by decide +kernel
theorem dX10_minorNow_98 : decode cX10_minorNow 98 = .ok (.istore_n 1, 1) := by decide +kernel
theorem dX10_minorNow_99 : decode cX10_minorNow 99 = .ok (.iinc 2 1, 3) := by decide +kernel
theorem dX10_minorNow_102 : decode cX10_minorNow 102 = .ok (.goto (-60), 3) := by decide +kernel
theorem dX10_minorNow_105 : decode cX10_minorNow 105 = .ok (.iconst 0, 1) := by decide +kernel
theorem dX10_minorNow_106 : decode cX10_minorNow 106 = .ok (.istore_n 2, 1) := by decide +kernel
theorem dX10_minorNow_107 : decode cX10_minorNow 107 = .ok (.iload_n 2, 1) := by decide +kernel
theorem dX10_minorNow_108 : decode cX10_minorNow 108 = .ok (.aload_n 0, 1) := by decide +kernel
theorem dX10_minorNow_109 : decode cX10_minorNow 109 = .ok (.getfield 59, 3) := by decide +kernel
theorem dX10_minorNow_112 : decode cX10_minorNow 112 = .ok (.if_icmp .ge 24, 3) := by decide +kernel
theorem dX10_minorNow_115 : decode cX10_minorNow 115 = .ok (.iload_n 1, 1) := by decide +kernel
theorem dX10_minorNow_116 : decode cX10_minorNow 116 = .ok (.ifCond .eq 20, 3) := by decide +kernel
theorem dX10_minorNow_119 : decode cX10_minorNow 119 = .ok (.aload_n 0, 1) := by decide +kernel
theorem dX10_minorNow_120 : decode cX10_minorNow 120 = .ok (.aload_n 0, 1) := by decide +kernel
theorem dX10_minorNow_121 : decode cX10_minorNow 121 = .ok (.getfield 32, 3) := by decide +kernel
theorem dX10_minorNow_124 : decode cX10_minorNow 124 = .ok (.iload_n 2, 1) := by decide +kernel
theorem dX10_minorNow_125 : decode cX10_minorNow 125 = .ok (.iaload, 1) := by decide +kernel
theorem dX10_minorNow_126 : decode cX10_minorNow 126 = .ok (.invokevirtual 108, 3) := by decide +kernel
theorem dX10_minorNow_129 : decode cX10_minorNow 129 = .ok (.istore_n 1, 1) := by decide +kernel
theorem dX10_minorNow_130 : decode cX10_minorNow 130 = .ok (.iinc 2 1, 3) := by decide +kernel
theorem dX10_minorNow_133 : decode cX10_minorNow 133 = .ok (.goto (-26), 3) := by decide +kernel
theorem dX10_minorNow_136 : decode cX10_minorNow 136 = .ok (.iload_n 1, 1) := by decide +kernel
theorem dX10_minorNow_137 : decode cX10_minorNow 137 = .ok (.ifCond .ne 63, 3) := by decide +kernel
theorem dX10_minorNow_140 : decode cX10_minorNow 140 = .ok (.iconst 0, 1) := by decide +kernel
theorem dX10_minorNow_141 : decode cX10_minorNow 141 = .ok (.istore_n 2, 1) := by decide +kernel
theorem dX10_minorNow_142 : decode cX10_minorNow 142 = .ok (.iload_n 2, 1) := by decide +kernel
theorem dX10_minorNow_143 : decode cX10_minorNow 143 = .ok (.aload_n 0, 1) := by decide +kernel
theorem dX10_minorNow_144 : decode cX10_minorNow 144 = .ok (.getfield 59, 3) := by decide +kernel
theorem dX10_minorNow_147 : decode cX10_minorNow 147 = .ok (.if_icmp .ge 19, 3) := by decide +kernel
theorem dX10_minorNow_150 : decode cX10_minorNow 150 = .ok (.aload_n 0, 1) := by decide +kernel
theorem dX10_minorNow_151 : decode cX10_minorNow 151 = .ok (.aload_n 0, 1) := by decide +kernel
theorem dX10_minorNow_152 : decode cX10_minorNow 152 = .ok (.getfield 32, 3) := by decide +kernel
theorem dX10_minorNow_155 : decode cX10_minorNow 155 = .ok (.iload_n 2, 1) := by decide +kernel
theorem dX10_minorNow_156 : decode cX10_minorNow 156 = .ok (.iaload, 1) := by decide +kernel
theorem dX10_minorNow_157 : decode cX10_minorNow 157 = .ok (.invokevirtual 55, 3) := by decide +kernel
theorem dX10_minorNow_160 : decode cX10_minorNow 160 = .ok (.iinc 2 1, 3) := by decide +kernel
theorem dX10_minorNow_163 : decode cX10_minorNow 163 = .ok (.goto (-21), 3) := by decide +kernel
theorem dX10_minorNow_166 : decode cX10_minorNow 166 = .ok (.iconst 0, 1) := by decide +kernel
theorem dX10_minorNow_167 : decode cX10_minorNow 167 = .ok (.istore_n 2, 1) := by decide +kernel
theorem dX10_minorNow_168 : decode cX10_minorNow 168 = .ok (.iload_n 2, 1) := by decide +kernel
theorem dX10_minorNow_169 : decode cX10_minorNow 169 = .ok (.aload_n 0, 1) := by decide +kernel
theorem dX10_minorNow_170 : decode cX10_minorNow 170 = .ok (.getfield 59, 3) := by decide +kernel
theorem dX10_minorNow_173 : decode cX10_minorNow 173 = .ok (.if_icmp .ge 25, 3) := by decide +kernel
theorem dX10_minorNow_176 : decode cX10_minorNow 176 = .ok (.aload_n 0, 1) := by decide +kernel
theorem dX10_minorNow_177 : decode cX10_minorNow 177 = .ok (.aload_n 0, 1) := by decide +kernel
theorem dX10_minorNow_178 : decode cX10_minorNow 178 = .ok (.getfield 32, 3) := by decide +kernel
theorem dX10_minorNow_181 : decode cX10_minorNow 181 = .ok (.iload_n 2, 1) := by decide +kernel
theorem dX10_minorNow_182 : decode cX10_minorNow 182 = .ok (.iaload, 1) := by decide +kernel
theorem dX10_minorNow_183 : decode cX10_minorNow 183 = .ok (.aload_n 0, 1) := by decide +kernel
theorem dX10_minorNow_184 : decode cX10_minorNow 184 = .ok (.getfield 38, 3) := by decide +kernel
theorem dX10_minorNow_187 : decode cX10_minorNow 187 = .ok (.iload_n 2, 1) := by decide +kernel
theorem dX10_minorNow_188 : decode cX10_minorNow 188 = .ok (.iaload, 1) := by decide +kernel
theorem dX10_minorNow_189 : decode cX10_minorNow 189 = .ok (.invokevirtual 94, 3) := by decide +kernel
theorem dX10_minorNow_192 : decode cX10_minorNow 192 = .ok (.iinc 2 1, 3) := by decide +kernel
theorem dX10_minorNow_195 : decode cX10_minorNow 195 = .ok (.goto (-27), 3) := by decide +kernel
theorem dX10_minorNow_198 : decode cX10_minorNow 198 = .ok (.iconst (-1), 1) := by decide +kernel
theorem dX10_minorNow_199 : decode cX10_minorNow 199 = .ok (.ireturn, 1) := by decide +kernel
theorem dX10_minorNow_200 : decode cX10_minorNow 200 = .ok (.aload_n 0, 1) := by decide +kernel
theorem dX10_minorNow_201 : decode cX10_minorNow 201 = .ok (.dup, 1) := by decide +kernel
theorem dX10_minorNow_202 : decode cX10_minorNow 202 = .ok (.getfield 98, 3) := by decide +kernel
theorem dX10_minorNow_205 : decode cX10_minorNow 205 = .ok (.aload_n 0, 1) := by decide +kernel
theorem dX10_minorNow_206 : decode cX10_minorNow 206 = .ok (.getfield 59, 3) := by decide +kernel
theorem dX10_minorNow_209 : decode cX10_minorNow 209 = .ok (.iadd, 1) := by decide +kernel
theorem dX10_minorNow_210 : decode cX10_minorNow 210 = .ok (.putfield 98, 3) := by decide +kernel
theorem dX10_minorNow_213 : decode cX10_minorNow 213 = .ok (.iconst 0, 1) := by decide +kernel
theorem dX10_minorNow_214 : decode cX10_minorNow 214 = .ok (.istore_n 2, 1) := by decide +kernel
theorem dX10_minorNow_215 : decode cX10_minorNow 215 = .ok (.iconst 0, 1) := by decide +kernel
theorem dX10_minorNow_216 : decode cX10_minorNow 216 = .ok (.istore_n 3, 1) := by decide +kernel
theorem dX10_minorNow_217 : decode cX10_minorNow 217 = .ok (.iload_n 3, 1) := by decide +kernel
theorem dX10_minorNow_218 : decode cX10_minorNow 218 = .ok (.aload_n 0, 1) := by decide +kernel
theorem dX10_minorNow_219 : decode cX10_minorNow 219 = .ok (.getfield 62, 3) := by decide +kernel
theorem dX10_minorNow_222 : decode cX10_minorNow 222 = .ok (.if_icmp .ge 42, 3) := by decide +kernel
theorem dX10_minorNow_225 : decode cX10_minorNow 225 = .ok (.aload_n 0, 1) := by decide +kernel
theorem dX10_minorNow_226 : decode cX10_minorNow 226 = .ok (.getfield 7, 3) := by decide +kernel
theorem dX10_minorNow_229 : decode cX10_minorNow 229 = .ok (.iload_n 3, 1) := by decide +kernel
theorem dX10_minorNow_230 : decode cX10_minorNow 230 = .ok (.iaload, 1) := by decide +kernel
theorem dX10_minorNow_231 : decode cX10_minorNow 231 = .ok (.iconst (-1), 1) := by decide +kernel
theorem dX10_minorNow_232 : decode cX10_minorNow 232 = .ok (.if_icmp .eq 19, 3) := by decide +kernel
theorem dX10_minorNow_235 : decode cX10_minorNow 235 = .ok (.aload_n 0, 1) := by decide +kernel
theorem dX10_minorNow_236 : decode cX10_minorNow 236 = .ok (.iload_n 3, 1) := by decide +kernel
theorem dX10_minorNow_237 : decode cX10_minorNow 237 = .ok (.invokevirtual 74, 3) := by decide +kernel
theorem dX10_minorNow_240 : decode cX10_minorNow 240 = .ok (.ifCond .ne 11, 3) := by decide +kernel
theorem dX10_minorNow_243 : decode cX10_minorNow 243 = .ok (.aload_n 0, 1) := by decide +kernel
theorem dX10_minorNow_244 : decode cX10_minorNow 244 = .ok (.iload_n 3, 1) := by decide +kernel
theorem dX10_minorNow_245 : decode cX10_minorNow 245 = .ok (.invokevirtual 78, 3) := by decide +kernel
theorem dX10_minorNow_248 : decode cX10_minorNow 248 = .ok (.iinc 2 1, 3) := by decide +kernel
theorem dX10_minorNow_251 : decode cX10_minorNow 251 = .ok (.aload_n 0, 1) := by decide +kernel
theorem dX10_minorNow_252 : decode cX10_minorNow 252 = .ok (.getfield 16, 3) := by decide +kernel
theorem dX10_minorNow_255 : decode cX10_minorNow 255 = .ok (.iload_n 3, 1) := by decide +kernel
theorem dX10_minorNow_256 : decode cX10_minorNow 256 = .ok (.iconst 0, 1) := by decide +kernel
theorem dX10_minorNow_257 : decode cX10_minorNow 257 = .ok (.bastore, 1) := by decide +kernel
theorem dX10_minorNow_258 : decode cX10_minorNow 258 = .ok (.iinc 3 1, 3) := by decide +kernel
theorem dX10_minorNow_261 : decode cX10_minorNow 261 = .ok (.goto (-44), 3) := by decide +kernel
theorem dX10_minorNow_264 : decode cX10_minorNow 264 = .ok (.aload_n 0, 1) := by decide +kernel
theorem dX10_minorNow_265 : decode cX10_minorNow 265 = .ok (.iconst 0, 1) := by decide +kernel
theorem dX10_minorNow_266 : decode cX10_minorNow 266 = .ok (.putfield 91, 3) := by decide +kernel
theorem dX10_minorNow_269 : decode cX10_minorNow 269 = .ok (.aload_n 0, 1) := by decide +kernel
theorem dX10_minorNow_270 : decode cX10_minorNow 270 = .ok (.dup, 1) := by decide +kernel
theorem dX10_minorNow_271 : decode cX10_minorNow 271 = .ok (.getfield 111, 3) := by decide +kernel
theorem dX10_minorNow_274 : decode cX10_minorNow 274 = .ok (.iconst 1, 1) := by decide +kernel
theorem dX10_minorNow_275 : decode cX10_minorNow 275 = .ok (.iadd, 1) := by decide +kernel
theorem dX10_minorNow_276 : decode cX10_minorNow 276 = .ok (.putfield 111, 3) := by decide +kernel
theorem dX10_minorNow_279 : decode cX10_minorNow 279 = .ok (.iload_n 2, 1) := by decide +kernel
theorem dX10_minorNow_280 : decode cX10_minorNow 280 = .ok (.ireturn, 1) := by decide +kernel
theorem dX10_collectNow_0 : decode cX10_collectNow 0 = .ok (.aload_n 0, 1) := by decide +kernel
theorem dX10_collectNow_1 : decode cX10_collectNow 1 = .ok (.dup, 1) := by decide +kernel
theorem dX10_collectNow_2 : decode cX10_collectNow 2 = .ok (.getfield 114, 3) := by decide +kernel
theorem dX10_collectNow_5 : decode cX10_collectNow 5 = .ok (.iconst 1, 1) := by decide +kernel
theorem dX10_collectNow_6 : decode cX10_collectNow 6 = .ok (.iadd, 1) := by decide +kernel
theorem dX10_collectNow_7 : decode cX10_collectNow 7 = .ok (.putfield 114, 3) := by decide +kernel
theorem dX10_collectNow_10 : decode cX10_collectNow 10 = .ok (.aload_n 0, 1) := by decide +kernel
theorem dX10_collectNow_11 : decode cX10_collectNow 11 = .ok (.getfield 41, 3) := by decide +kernel
theorem dX10_collectNow_14 : decode cX10_collectNow 14 = .ok (.iconst 1, 1) := by decide +kernel
theorem dX10_collectNow_15 : decode cX10_collectNow 15 = .ok (.if_icmp .ne 8, 3) := by decide +kernel
theorem dX10_collectNow_18 : decode cX10_collectNow 18 = .ok (.aload_n 0, 1) := by decide +kernel
theorem dX10_collectNow_19 : decode cX10_collectNow 19 = .ok (.invokevirtual 117, 3) := by decide +kernel
theorem dX10_collectNow_22 : decode cX10_collectNow 22 = .ok (.ireturn, 1) := by decide +kernel
theorem dX10_collectNow_23 : decode cX10_collectNow 23 = .ok (.aload_n 0, 1) := by decide +kernel
theorem dX10_collectNow_24 : decode cX10_collectNow 24 = .ok (.invokevirtual 81, 3) := by decide +kernel
theorem dX10_collectNow_27 : decode cX10_collectNow 27 = .ok (.aload_n 0, 1) := by decide +kernel
theorem dX10_collectNow_28 : decode cX10_collectNow 28 = .ok (.getfield 41, 3) := by decide +kernel
theorem dX10_collectNow_31 : decode cX10_collectNow 31 = .ok (.ifCond .ne 9, 3) := by decide +kernel
theorem dX10_collectNow_34 : decode cX10_collectNow 34 = .ok (.aload_n 0, 1) := by decide +kernel
theorem dX10_collectNow_35 : decode cX10_collectNow 35 = .ok (.iconst 0, 1) := by decide +kernel
theorem dX10_collectNow_36 : decode cX10_collectNow 36 = .ok (.invokevirtual 84, 3) := by decide +kernel
theorem dX10_collectNow_39 : decode cX10_collectNow 39 = .ok (.ireturn, 1) := by decide +kernel
theorem dX10_collectNow_40 : decode cX10_collectNow 40 = .ok (.aload_n 0, 1) := by decide +kernel
theorem dX10_collectNow_41 : decode cX10_collectNow 41 = .ok (.iconst 1, 1) := by decide +kernel
theorem dX10_collectNow_42 : decode cX10_collectNow 42 = .ok (.invokevirtual 84, 3) := by decide +kernel
theorem dX10_collectNow_45 : decode cX10_collectNow 45 = .ok (.istore_n 1, 1) := by decide +kernel
theorem dX10_collectNow_46 : decode cX10_collectNow 46 = .ok (.aload_n 0, 1) := by decide +kernel
theorem dX10_collectNow_47 : decode cX10_collectNow 47 = .ok (.invokevirtual 121, 3) := by decide +kernel
theorem dX10_collectNow_50 : decode cX10_collectNow 50 = .ok (.istore_n 2, 1) := by decide +kernel
theorem dX10_collectNow_51 : decode cX10_collectNow 51 = .ok (.iload_n 2, 1) := by decide +kernel
theorem dX10_collectNow_52 : decode cX10_collectNow 52 = .ok (.iconst (-1), 1) := by decide +kernel
theorem dX10_collectNow_53 : decode cX10_collectNow 53 = .ok (.if_icmp .ne 7, 3) := by decide +kernel
theorem dX10_collectNow_56 : decode cX10_collectNow 56 = .ok (.iconst (-1), 1) := by decide +kernel
theorem dX10_collectNow_57 : decode cX10_collectNow 57 = .ok (.goto 6, 3) := by decide +kernel
theorem dX10_collectNow_60 : decode cX10_collectNow 60 = .ok (.iload_n 1, 1) := by decide +kernel
theorem dX10_collectNow_61 : decode cX10_collectNow 61 = .ok (.iload_n 2, 1) := by decide +kernel
theorem dX10_collectNow_62 : decode cX10_collectNow 62 = .ok (.iadd, 1) := by decide +kernel
theorem dX10_collectNow_63 : decode cX10_collectNow 63 = .ok (.ireturn, 1) := by decide +kernel
theorem dX10_room_0 : decode cX10_room 0 = .ok (.aload_n 0, 1) := by decide +kernel
theorem dX10_room_1 : decode cX10_room 1 = .ok (.getfield 41, 3) := by decide +kernel
theorem dX10_room_4 : decode cX10_room 4 = .ok (.ifCond .ne 10, 3) := by decide +kernel
theorem dX10_room_7 : decode cX10_room 7 = .ok (.aload_n 0, 1) := by decide +kernel
theorem dX10_room_8 : decode cX10_room 8 = .ok (.iconst 0, 1) := by decide +kernel
theorem dX10_room_9 : decode cX10_room 9 = .ok (.iload_n 1, 1) := by decide +kernel
theorem dX10_room_10 : decode cX10_room 10 = .ok (.invokevirtual 101, 3) := by decide +kernel
theorem dX10_room_13 : decode cX10_room 13 = .ok (.ireturn, 1) := by decide +kernel
theorem dX10_room_14 : decode cX10_room 14 = .ok (.aload_n 0, 1) := by decide +kernel
theorem dX10_room_15 : decode cX10_room 15 = .ok (.getfield 41, 3) := by decide +kernel
theorem dX10_room_18 : decode cX10_room 18 = .ok (.iconst 1, 1) := by decide +kernel
theorem dX10_room_19 : decode cX10_room 19 = .ok (.if_icmp .ne 19, 3) := by decide +kernel
theorem dX10_room_22 : decode cX10_room 22 = .ok (.aload_n 0, 1) := by decide +kernel
theorem dX10_room_23 : decode cX10_room 23 = .ok (.getfield 88, 3) := by decide +kernel
theorem dX10_room_26 : decode cX10_room 26 = .ok (.iconst 1, 1) := by decide +kernel
theorem dX10_room_27 : decode cX10_room 27 = .ok (.iadd, 1) := by decide +kernel
theorem dX10_room_28 : decode cX10_room 28 = .ok (.aload_n 0, 1) := by decide +kernel
theorem dX10_room_29 : decode cX10_room 29 = .ok (.getfield 45, 3) := by decide +kernel
theorem dX10_room_32 : decode cX10_room 32 = .ok (.iconst 2, 1) := by decide +kernel
theorem dX10_room_33 : decode cX10_room 33 = .ok (.idiv, 1) := by decide +kernel
theorem dX10_room_34 : decode cX10_room 34 = .ok (.imul, 1) := by decide +kernel
theorem dX10_room_35 : decode cX10_room 35 = .ok (.goto 9, 3) := by decide +kernel
theorem dX10_room_38 : decode cX10_room 38 = .ok (.aload_n 0, 1) := by decide +kernel
theorem dX10_room_39 : decode cX10_room 39 = .ok (.getfield 45, 3) := by decide +kernel
theorem dX10_room_42 : decode cX10_room 42 = .ok (.iconst 4, 1) := by decide +kernel
theorem dX10_room_43 : decode cX10_room 43 = .ok (.idiv, 1) := by decide +kernel
theorem dX10_room_44 : decode cX10_room 44 = .ok (.istore_n 2, 1) := by decide +kernel
theorem dX10_room_45 : decode cX10_room 45 = .ok (.aload_n 0, 1) := by decide +kernel
theorem dX10_room_46 : decode cX10_room 46 = .ok (.getfield 91, 3) := by decide +kernel
theorem dX10_room_49 : decode cX10_room 49 = .ok (.iload_n 1, 1) := by decide +kernel
theorem dX10_room_50 : decode cX10_room 50 = .ok (.iadd, 1) := by decide +kernel
theorem dX10_room_51 : decode cX10_room 51 = .ok (.iload_n 2, 1) := by decide +kernel
theorem dX10_room_52 : decode cX10_room 52 = .ok (.if_icmp .gt 10, 3) := by decide +kernel
theorem dX10_room_55 : decode cX10_room 55 = .ok (.aload_n 0, 1) := by decide +kernel
theorem dX10_room_56 : decode cX10_room 56 = .ok (.getfield 91, 3) := by decide +kernel
theorem dX10_room_59 : decode cX10_room 59 = .ok (.goto 4, 3) := by decide +kernel
theorem dX10_room_62 : decode cX10_room 62 = .ok (.iconst (-1), 1) := by decide +kernel
theorem dX10_room_63 : decode cX10_room 63 = .ok (.ireturn, 1) := by decide +kernel
theorem dX10_make_0 : decode cX10_make 0 = .ok (.aload_n 0, 1) := by decide +kernel
theorem dX10_make_1 : decode cX10_make 1 = .ok (.iconst 0, 1) := by decide +kernel
theorem dX10_make_2 : decode cX10_make 2 = .ok (.putfield 48, 3) := by decide +kernel
theorem dX10_make_5 : decode cX10_make 5 = .ok (.iload_n 1, 1) := by decide +kernel
theorem dX10_make_6 : decode cX10_make 6 = .ok (.invokestatic 124, 3) := by decide +kernel
theorem dX10_make_9 : decode cX10_make 9 = .ok (.ifCond .eq 13, 3) := by decide +kernel
theorem dX10_make_12 : decode cX10_make 12 = .ok (.iload_n 2, 1) := by decide +kernel
theorem dX10_make_13 : decode cX10_make 13 = .ok (.iconst 0, 1) := by decide +kernel
theorem dX10_make_14 : decode cX10_make 14 = .ok (.bipush 6, 2) := by decide +kernel
theorem dX10_make_16 : decode cX10_make 16 = .ok (.invokestatic 51, 3) := by decide +kernel
theorem dX10_make_19 : decode cX10_make 19 = .ok (.ifCond .ne 6, 3) := by decide +kernel
theorem dX10_make_22 : decode cX10_make 22 = .ok (.bipush (-2), 2) := by decide +kernel
theorem dX10_make_24 : decode cX10_make 24 = .ok (.ireturn, 1) := by decide +kernel
theorem dX10_make_25 : decode cX10_make 25 = .ok (.aload_n 0, 1) := by decide +kernel
theorem dX10_make_26 : decode cX10_make 26 = .ok (.getfield 62, 3) := by decide +kernel
theorem dX10_make_29 : decode cX10_make 29 = .ok (.sipush 2000, 3) := by decide +kernel
theorem dX10_make_32 : decode cX10_make 32 = .ok (.if_icmp .ne 6, 3) := by decide +kernel
theorem dX10_make_35 : decode cX10_make 35 = .ok (.bipush (-4), 2) := by decide +kernel
theorem dX10_make_37 : decode cX10_make 37 = .ok (.ireturn, 1) := by decide +kernel
theorem dX10_make_38 : decode cX10_make 38 = .ok (.iload_n 2, 1) := by decide +kernel
theorem dX10_make_39 : decode cX10_make 39 = .ok (.iconst 1, 1) := by decide +kernel
theorem dX10_make_40 : decode cX10_make 40 = .ok (.iadd, 1) := by decide +kernel
theorem dX10_make_41 : decode cX10_make 41 = .ok (.istore_n 3, 1) := by decide +kernel
theorem dX10_make_42 : decode cX10_make 42 = .ok (.aload_n 0, 1) := by decide +kernel
theorem dX10_make_43 : decode cX10_make 43 = .ok (.iload_n 3, 1) := by decide +kernel
theorem dX10_make_44 : decode cX10_make 44 = .ok (.invokevirtual 127, 3) := by decide +kernel
theorem dX10_make_47 : decode cX10_make 47 = .ok (.istore 4, 2) := by decide +kernel
theorem dX10_make_49 : decode cX10_make 49 = .ok (.iload 4, 2) := by decide +kernel
theorem dX10_make_51 : decode cX10_make 51 = .ok (.iconst (-1), 1) := by decide +kernel
theorem dX10_make_52 : decode cX10_make 52 = .ok (.if_icmp .ne 49, 3) := by decide +kernel
theorem dX10_make_55 : decode cX10_make 55 = .ok (.aload_n 0, 1) := by decide +kernel
theorem dX10_make_56 : decode cX10_make 56 = .ok (.getfield 41, 3) := by decide +kernel
theorem dX10_make_59 : decode cX10_make 59 = .ok (.iconst 2, 1) := by decide +kernel
theorem dX10_make_60 : decode cX10_make 60 = .ok (.if_icmp .ge 11, 3) := by decide +kernel
theorem dX10_make_63 : decode cX10_make 63 = .ok (.aload_n 0, 1) := by decide +kernel
theorem dX10_make_64 : decode cX10_make 64 = .ok (.invokevirtual 131, 3) := by decide +kernel
theorem dX10_make_67 : decode cX10_make 67 = .ok (.pop, 1) := by decide +kernel
theorem dX10_make_68 : decode cX10_make 68 = .ok (.goto 26, 3) := by decide +kernel
theorem dX10_make_71 : decode cX10_make 71 = .ok (.iload_n 3, 1) := by decide +kernel
theorem dX10_make_72 : decode cX10_make 72 = .ok (.aload_n 0, 1) := by decide +kernel
theorem dX10_make_73 : decode cX10_make 73 = .ok (.getfield 45, 3) := by decide +kernel
theorem dX10_make_76 : decode cX10_make 76 = .ok (.iconst 4, 1) := by decide +kernel
theorem dX10_make_77 : decode cX10_make 77 = .ok (.idiv, 1) := by decide +kernel
theorem dX10_make_78 : decode cX10_make 78 = .ok (.if_icmp .gt 16, 3) := by decide +kernel
theorem dX10_make_81 : decode cX10_make 81 = .ok (.aload_n 0, 1) := by decide +kernel
theorem dX10_make_82 : decode cX10_make 82 = .ok (.invokevirtual 121, 3) := by decide +kernel
theorem dX10_make_85 : decode cX10_make 85 = .ok (.iconst (-1), 1) := by decide +kernel
theorem dX10_make_86 : decode cX10_make 86 = .ok (.if_icmp .ne 8, 3) := by decide +kernel
theorem dX10_make_89 : decode cX10_make 89 = .ok (.aload_n 0, 1) := by decide +kernel
theorem dX10_make_90 : decode cX10_make 90 = .ok (.invokevirtual 131, 3) := by decide +kernel
theorem dX10_make_93 : decode cX10_make 93 = .ok (.pop, 1) := by decide +kernel
theorem dX10_make_94 : decode cX10_make 94 = .ok (.aload_n 0, 1) := by decide +kernel
theorem dX10_make_95 : decode cX10_make 95 = .ok (.iload_n 3, 1) := by decide +kernel
theorem dX10_make_96 : decode cX10_make 96 = .ok (.invokevirtual 127, 3) := by decide +kernel
theorem dX10_make_99 : decode cX10_make 99 = .ok (.istore 4, 2) := by decide +kernel
theorem dX10_make_101 : decode cX10_make 101 = .ok (.iload 4, 2) := by decide +kernel
theorem dX10_make_103 : decode cX10_make 103 = .ok (.iconst (-1), 1) := by decide +kernel
theorem dX10_make_104 : decode cX10_make 104 = .ok (.if_icmp .ne 6, 3) := by decide +kernel
theorem dX10_make_107 : decode cX10_make 107 = .ok (.bipush (-4), 2) := by decide +kernel
theorem dX10_make_109 : decode cX10_make 109 = .ok (.ireturn, 1) := by decide +kernel
theorem dX10_make_110 : decode cX10_make 110 = .ok (.aload_n 0, 1) := by decide +kernel
theorem dX10_make_111 : decode cX10_make 111 = .ok (.getfield 62, 3) := by decide +kernel
theorem dX10_make_114 : decode cX10_make 114 = .ok (.istore 5, 2) := by decide +kernel
theorem dX10_make_116 : decode cX10_make 116 = .ok (.aload_n 0, 1) := by decide +kernel
theorem dX10_make_117 : decode cX10_make 117 = .ok (.dup, 1) := by decide +kernel
theorem dX10_make_118 : decode cX10_make 118 = .ok (.getfield 62, 3) := by decide +kernel
theorem dX10_make_121 : decode cX10_make 121 = .ok (.iconst 1, 1) := by decide +kernel
theorem dX10_make_122 : decode cX10_make 122 = .ok (.iadd, 1) := by decide +kernel
theorem dX10_make_123 : decode cX10_make 123 = .ok (.putfield 62, 3) := by decide +kernel
theorem dX10_make_126 : decode cX10_make 126 = .ok (.aload_n 0, 1) := by decide +kernel
theorem dX10_make_127 : decode cX10_make 127 = .ok (.getfield 13, 3) := by decide +kernel
theorem dX10_make_130 : decode cX10_make 130 = .ok (.iload 5, 2) := by decide +kernel
theorem dX10_make_132 : decode cX10_make 132 = .ok (.iload_n 2, 1) := by decide +kernel
theorem dX10_make_133 : decode cX10_make 133 = .ok (.iastore, 1) := by decide +kernel
theorem dX10_make_134 : decode cX10_make 134 = .ok (.iconst 0, 1) := by decide +kernel
theorem dX10_make_135 : decode cX10_make 135 = .ok (.istore 6, 2) := by decide +kernel
theorem dX10_make_137 : decode cX10_make 137 = .ok (.iload 6, 2) := by decide +kernel
theorem dX10_make_139 : decode cX10_make 139 = .ok (.bipush 6, 2) := by decide +kernel
theorem dX10_make_141 : decode cX10_make 141 = .ok (.if_icmp .ge 37, 3) := by decide +kernel
theorem dX10_make_144 : decode cX10_make 144 = .ok (.aload_n 0, 1) := by decide +kernel
theorem dX10_make_145 : decode cX10_make 145 = .ok (.getfield 20, 3) := by decide +kernel
theorem dX10_make_148 : decode cX10_make 148 = .ok (.bipush 6, 2) := by decide +kernel
theorem dX10_make_150 : decode cX10_make 150 = .ok (.iload 5, 2) := by decide +kernel
theorem dX10_make_152 : decode cX10_make 152 = .ok (.imul, 1) := by decide +kernel
theorem dX10_make_153 : decode cX10_make 153 = .ok (.iload 6, 2) := by decide +kernel
theorem dX10_make_155 : decode cX10_make 155 = .ok (.iadd, 1) := by decide +kernel
theorem dX10_make_156 : decode cX10_make 156 = .ok (.iconst 0, 1) := by decide +kernel
theorem dX10_make_157 : decode cX10_make 157 = .ok (.iastore, 1) := by decide +kernel
theorem dX10_make_158 : decode cX10_make 158 = .ok (.aload_n 0, 1) := by decide +kernel
theorem dX10_make_159 : decode cX10_make 159 = .ok (.getfield 23, 3) := by decide +kernel
theorem dX10_make_162 : decode cX10_make 162 = .ok (.bipush 6, 2) := by decide +kernel
theorem dX10_make_164 : decode cX10_make 164 = .ok (.iload 5, 2) := by decide +kernel
theorem dX10_make_166 : decode cX10_make 166 = .ok (.imul, 1) := by decide +kernel
theorem dX10_make_167 : decode cX10_make 167 = .ok (.iload 6, 2) := by decide +kernel
theorem dX10_make_169 : decode cX10_make 169 = .ok (.iadd, 1) := by decide +kernel
theorem dX10_make_170 : decode cX10_make 170 = .ok (.iconst (-1), 1) := by decide +kernel
theorem dX10_make_171 : decode cX10_make 171 = .ok (.iastore, 1) := by decide +kernel
theorem dX10_make_172 : decode cX10_make 172 = .ok (.iinc 6 1, 3) := by decide +kernel
theorem dX10_make_175 : decode cX10_make 175 = .ok (.goto (-38), 3) := by decide +kernel
theorem dX10_make_178 : decode cX10_make 178 = .ok (.aload_n 0, 1) := by decide +kernel
theorem dX10_make_179 : decode cX10_make 179 = .ok (.iload 5, 2) := by decide +kernel
theorem dX10_make_181 : decode cX10_make 181 = .ok (.iload 4, 2) := by decide +kernel
theorem dX10_make_183 : decode cX10_make 183 = .ok (.invokevirtual 94, 3) := by decide +kernel
theorem dX10_make_186 : decode cX10_make 186 = .ok (.aload_n 0, 1) := by decide +kernel
theorem dX10_make_187 : decode cX10_make 187 = .ok (.dup, 1) := by decide +kernel
theorem dX10_make_188 : decode cX10_make 188 = .ok (.getfield 91, 3) := by decide +kernel
theorem dX10_make_191 : decode cX10_make 191 = .ok (.iload_n 3, 1) := by decide +kernel
theorem dX10_make_192 : decode cX10_make 192 = .ok (.iadd, 1) := by decide +kernel
theorem dX10_make_193 : decode cX10_make 193 = .ok (.putfield 91, 3) := by decide +kernel
theorem dX10_make_196 : decode cX10_make 196 = .ok (.aload_n 0, 1) := by decide +kernel
theorem dX10_make_197 : decode cX10_make 197 = .ok (.getfield 26, 3) := by decide +kernel
theorem dX10_make_200 : decode cX10_make 200 = .ok (.iload_n 1, 1) := by decide +kernel
theorem dX10_make_201 : decode cX10_make 201 = .ok (.iload 5, 2) := by decide +kernel
theorem dX10_make_203 : decode cX10_make 203 = .ok (.iastore, 1) := by decide +kernel
theorem dX10_make_204 : decode cX10_make 204 = .ok (.iload 5, 2) := by decide +kernel
theorem dX10_make_206 : decode cX10_make 206 = .ok (.ireturn, 1) := by decide +kernel
theorem dX10_wrong_0 : decode cX10_wrong 0 = .ok (.iload_n 1, 1) := by decide +kernel
theorem dX10_wrong_1 : decode cX10_wrong 1 = .ok (.invokestatic 124, 3) := by decide +kernel
theorem dX10_wrong_4 : decode cX10_wrong 4 = .ok (.ifCond .eq 37, 3) := by decide +kernel
theorem dX10_wrong_7 : decode cX10_wrong 7 = .ok (.iload_n 2, 1) := by decide +kernel
theorem dX10_wrong_8 : decode cX10_wrong 8 = .ok (.iconst 0, 1) := by decide +kernel
theorem dX10_wrong_9 : decode cX10_wrong 9 = .ok (.iconst 5, 1) := by decide +kernel
theorem dX10_wrong_10 : decode cX10_wrong 10 = .ok (.invokestatic 51, 3) := by decide +kernel
theorem dX10_wrong_13 : decode cX10_wrong 13 = .ok (.ifCond .eq 28, 3) := by decide +kernel
theorem dX10_wrong_16 : decode cX10_wrong 16 = .ok (.aload_n 0, 1) := by decide +kernel
theorem dX10_wrong_17 : decode cX10_wrong 17 = .ok (.getfield 26, 3) := by decide +kernel
theorem dX10_wrong_20 : decode cX10_wrong 20 = .ok (.iload_n 1, 1) := by decide +kernel
theorem dX10_wrong_21 : decode cX10_wrong 21 = .ok (.iaload, 1) := by decide +kernel
theorem dX10_wrong_22 : decode cX10_wrong 22 = .ok (.iconst (-1), 1) := by decide +kernel
theorem dX10_wrong_23 : decode cX10_wrong 23 = .ok (.if_icmp .eq 21, 3) := by decide +kernel
theorem dX10_wrong_26 : decode cX10_wrong 26 = .ok (.iload_n 2, 1) := by decide +kernel
theorem dX10_wrong_27 : decode cX10_wrong 27 = .ok (.aload_n 0, 1) := by decide +kernel
theorem dX10_wrong_28 : decode cX10_wrong 28 = .ok (.getfield 13, 3) := by decide +kernel
theorem dX10_wrong_31 : decode cX10_wrong 31 = .ok (.aload_n 0, 1) := by decide +kernel
theorem dX10_wrong_32 : decode cX10_wrong 32 = .ok (.getfield 26, 3) := by decide +kernel
theorem dX10_wrong_35 : decode cX10_wrong 35 = .ok (.iload_n 1, 1) := by decide +kernel
theorem dX10_wrong_36 : decode cX10_wrong 36 = .ok (.iaload, 1) := by decide +kernel
theorem dX10_wrong_37 : decode cX10_wrong 37 = .ok (.iaload, 1) := by decide +kernel
theorem dX10_wrong_38 : decode cX10_wrong 38 = .ok (.if_icmp .lt 6, 3) := by decide +kernel
theorem dX10_wrong_41 : decode cX10_wrong 41 = .ok (.bipush (-2), 2) := by decide +kernel
theorem dX10_wrong_43 : decode cX10_wrong 43 = .ok (.ireturn, 1) := by decide +kernel
theorem dX10_wrong_44 : decode cX10_wrong 44 = .ok (.aload_n 0, 1) := by decide +kernel
theorem dX10_wrong_45 : decode cX10_wrong 45 = .ok (.getfield 26, 3) := by decide +kernel
theorem dX10_wrong_48 : decode cX10_wrong 48 = .ok (.iload_n 1, 1) := by decide +kernel
theorem dX10_wrong_49 : decode cX10_wrong 49 = .ok (.iaload, 1) := by decide +kernel
theorem dX10_wrong_50 : decode cX10_wrong 50 = .ok (.iconst (-1), 1) := by decide +kernel
theorem dX10_wrong_51 : decode cX10_wrong 51 = .ok (.if_icmp .ne 8, 3) := by decide +kernel
theorem dX10_wrong_54 : decode cX10_wrong 54 = .ok (.bipush (-3), 2) := by decide +kernel
theorem dX10_wrong_56 : decode cX10_wrong 56 = .ok (.goto 4, 3) := by decide +kernel
theorem dX10_wrong_59 : decode cX10_wrong 59 = .ok (.iconst 0, 1) := by decide +kernel
theorem dX10_wrong_60 : decode cX10_wrong 60 = .ok (.ireturn, 1) := by decide +kernel
theorem dX10_set_0 : decode cX10_set 0 = .ok (.aload_n 0, 1) := by decide +kernel
theorem dX10_set_1 : decode cX10_set 1 = .ok (.iconst 0, 1) := by decide +kernel
theorem dX10_set_2 : decode cX10_set 2 = .ok (.putfield 48, 3) := by decide +kernel
theorem dX10_set_5 : decode cX10_set 5 = .ok (.aload_n 0, 1) := by decide +kernel
theorem dX10_set_6 : decode cX10_set 6 = .ok (.iload_n 1, 1) := by decide +kernel
theorem dX10_set_7 : decode cX10_set 7 = .ok (.iload_n 2, 1) := by decide +kernel
theorem dX10_set_8 : decode cX10_set 8 = .ok (.invokevirtual 134, 3) := by decide +kernel
theorem dX10_set_11 : decode cX10_set 11 = .ok (.istore 4, 2) := by decide +kernel
theorem dX10_set_13 : decode cX10_set 13 = .ok (.iload 4, 2) := by decide +kernel
theorem dX10_set_15 : decode cX10_set 15 = .ok (.ifCond .ne 37, 3) := by decide +kernel
theorem dX10_set_18 : decode cX10_set 18 = .ok (.aload_n 0, 1) := by decide +kernel
theorem dX10_set_19 : decode cX10_set 19 = .ok (.getfield 20, 3) := by decide +kernel
theorem dX10_set_22 : decode cX10_set 22 = .ok (.bipush 6, 2) := by decide +kernel
theorem dX10_set_24 : decode cX10_set 24 = .ok (.aload_n 0, 1) := by decide +kernel
theorem dX10_set_25 : decode cX10_set 25 = .ok (.getfield 26, 3) := by decide +kernel
theorem dX10_set_28 : decode cX10_set 28 = .ok (.iload_n 1, 1) := by decide +kernel
theorem dX10_set_29 : decode cX10_set 29 = .ok (.iaload, 1) := by decide +kernel
theorem dX10_set_30 : decode cX10_set 30 = .ok (.imul, 1) := by decide +kernel
theorem dX10_set_31 : decode cX10_set 31 = .ok (.iload_n 2, 1) := by decide +kernel
theorem dX10_set_32 : decode cX10_set 32 = .ok (.iadd, 1) := by decide +kernel
theorem dX10_set_33 : decode cX10_set 33 = .ok (.iload_n 3, 1) := by decide +kernel
theorem dX10_set_34 : decode cX10_set 34 = .ok (.iastore, 1) := by decide +kernel
theorem dX10_set_35 : decode cX10_set 35 = .ok (.aload_n 0, 1) := by decide +kernel
theorem dX10_set_36 : decode cX10_set 36 = .ok (.getfield 23, 3) := by decide +kernel
theorem dX10_set_39 : decode cX10_set 39 = .ok (.bipush 6, 2) := by decide +kernel
theorem dX10_set_41 : decode cX10_set 41 = .ok (.aload_n 0, 1) := by decide +kernel
theorem dX10_set_42 : decode cX10_set 42 = .ok (.getfield 26, 3) := by decide +kernel
theorem dX10_set_45 : decode cX10_set 45 = .ok (.iload_n 1, 1) := by decide +kernel
theorem dX10_set_46 : decode cX10_set 46 = .ok (.iaload, 1) := by decide +kernel
theorem dX10_set_47 : decode cX10_set 47 = .ok (.imul, 1) := by decide +kernel
theorem dX10_set_48 : decode cX10_set 48 = .ok (.iload_n 2, 1) := by decide +kernel
theorem dX10_set_49 : decode cX10_set 49 = .ok (.iadd, 1) := by decide +kernel
theorem dX10_set_50 : decode cX10_set 50 = .ok (.iconst (-1), 1) := by decide +kernel
theorem dX10_set_51 : decode cX10_set 51 = .ok (.iastore, 1) := by decide +kernel
theorem dX10_set_52 : decode cX10_set 52 = .ok (.iload 4, 2) := by decide +kernel
theorem dX10_set_54 : decode cX10_set 54 = .ok (.ireturn, 1) := by decide +kernel
theorem dX10_link_0 : decode cX10_link 0 = .ok (.aload_n 0, 1) := by decide +kernel
theorem dX10_link_1 : decode cX10_link 1 = .ok (.iconst 0, 1) := by decide +kernel
theorem dX10_link_2 : decode cX10_link 2 = .ok (.putfield 48, 3) := by decide +kernel
theorem dX10_link_5 : decode cX10_link 5 = .ok (.aload_n 0, 1) := by decide +kernel
theorem dX10_link_6 : decode cX10_link 6 = .ok (.iload_n 1, 1) := by decide +kernel
theorem dX10_link_7 : decode cX10_link 7 = .ok (.iload_n 2, 1) := by decide +kernel
theorem dX10_link_8 : decode cX10_link 8 = .ok (.invokevirtual 134, 3) := by decide +kernel
theorem dX10_link_11 : decode cX10_link 11 = .ok (.istore 4, 2) := by decide +kernel
theorem dX10_link_13 : decode cX10_link 13 = .ok (.iload_n 3, 1) := by decide +kernel
theorem dX10_link_14 : decode cX10_link 14 = .ok (.invokestatic 124, 3) := by decide +kernel
theorem dX10_link_17 : decode cX10_link 17 = .ok (.ifCond .ne 6, 3) := by decide +kernel
theorem dX10_link_20 : decode cX10_link 20 = .ok (.bipush (-2), 2) := by decide +kernel
theorem dX10_link_22 : decode cX10_link 22 = .ok (.ireturn, 1) := by decide +kernel
theorem dX10_link_23 : decode cX10_link 23 = .ok (.iload 4, 2) := by decide +kernel
theorem dX10_link_25 : decode cX10_link 25 = .ok (.ifCond .eq 6, 3) := by decide +kernel
theorem dX10_link_28 : decode cX10_link 28 = .ok (.iload 4, 2) := by decide +kernel
theorem dX10_link_30 : decode cX10_link 30 = .ok (.ireturn, 1) := by decide +kernel
theorem dX10_link_31 : decode cX10_link 31 = .ok (.aload_n 0, 1) := by decide +kernel
theorem dX10_link_32 : decode cX10_link 32 = .ok (.getfield 26, 3) := by decide +kernel
theorem dX10_link_35 : decode cX10_link 35 = .ok (.iload_n 3, 1) := by decide +kernel
theorem dX10_link_36 : decode cX10_link 36 = .ok (.iaload, 1) := by decide +kernel
theorem dX10_link_37 : decode cX10_link 37 = .ok (.iconst (-1), 1) := by decide +kernel
theorem dX10_link_38 : decode cX10_link 38 = .ok (.if_icmp .ne 6, 3) := by decide +kernel
theorem dX10_link_41 : decode cX10_link 41 = .ok (.bipush (-3), 2) := by decide +kernel
theorem dX10_link_43 : decode cX10_link 43 = .ok (.ireturn, 1) := by decide +kernel
theorem dX10_link_44 : decode cX10_link 44 = .ok (.aload_n 0, 1) := by decide +kernel
theorem dX10_link_45 : decode cX10_link 45 = .ok (.getfield 26, 3) := by decide +kernel
theorem dX10_link_48 : decode cX10_link 48 = .ok (.iload_n 1, 1) := by decide +kernel
theorem dX10_link_49 : decode cX10_link 49 = .ok (.iaload, 1) := by decide +kernel
theorem dX10_link_50 : decode cX10_link 50 = .ok (.istore 5, 2) := by decide +kernel
theorem dX10_link_52 : decode cX10_link 52 = .ok (.aload_n 0, 1) := by decide +kernel
theorem dX10_link_53 : decode cX10_link 53 = .ok (.getfield 20, 3) := by decide +kernel
theorem dX10_link_56 : decode cX10_link 56 = .ok (.bipush 6, 2) := by decide +kernel
theorem dX10_link_58 : decode cX10_link 58 = .ok (.iload 5, 2) := by decide +kernel
theorem dX10_link_60 : decode cX10_link 60 = .ok (.imul, 1) := by decide +kernel
theorem dX10_link_61 : decode cX10_link 61 = .ok (.iload_n 2, 1) := by decide +kernel
theorem dX10_link_62 : decode cX10_link 62 = .ok (.iadd, 1) := by decide +kernel
theorem dX10_link_63 : decode cX10_link 63 = .ok (.iconst 0, 1) := by decide +kernel
theorem dX10_link_64 : decode cX10_link 64 = .ok (.iastore, 1) := by decide +kernel
theorem dX10_link_65 : decode cX10_link 65 = .ok (.aload_n 0, 1) := by decide +kernel
theorem dX10_link_66 : decode cX10_link 66 = .ok (.getfield 23, 3) := by decide +kernel
theorem dX10_link_69 : decode cX10_link 69 = .ok (.bipush 6, 2) := by decide +kernel
theorem dX10_link_71 : decode cX10_link 71 = .ok (.iload 5, 2) := by decide +kernel
theorem dX10_link_73 : decode cX10_link 73 = .ok (.imul, 1) := by decide +kernel
theorem dX10_link_74 : decode cX10_link 74 = .ok (.iload_n 2, 1) := by decide +kernel
theorem dX10_link_75 : decode cX10_link 75 = .ok (.iadd, 1) := by decide +kernel
theorem dX10_link_76 : decode cX10_link 76 = .ok (.aload_n 0, 1) := by decide +kernel
theorem dX10_link_77 : decode cX10_link 77 = .ok (.getfield 26, 3) := by decide +kernel
theorem dX10_link_80 : decode cX10_link 80 = .ok (.iload_n 3, 1) := by decide +kernel
theorem dX10_link_81 : decode cX10_link 81 = .ok (.iaload, 1) := by decide +kernel
theorem dX10_link_82 : decode cX10_link 82 = .ok (.iastore, 1) := by decide +kernel
theorem dX10_link_83 : decode cX10_link 83 = .ok (.aload_n 0, 1) := by decide +kernel
theorem dX10_link_84 : decode cX10_link 84 = .ok (.getfield 16, 3) := by decide +kernel
theorem dX10_link_87 : decode cX10_link 87 = .ok (.iload 5, 2) := by decide +kernel
theorem dX10_link_89 : decode cX10_link 89 = .ok (.aload_n 0, 1) := by decide +kernel
theorem dX10_link_90 : decode cX10_link 90 = .ok (.getfield 16, 3) := by decide +kernel
theorem dX10_link_93 : decode cX10_link 93 = .ok (.iload 5, 2) := by decide +kernel
theorem dX10_link_95 : decode cX10_link 95 = .ok (.baload, 1) := by decide +kernel
theorem dX10_link_96 : decode cX10_link 96 = .ok (.ifCond .ne 25, 3) := by decide +kernel
theorem dX10_link_99 : decode cX10_link 99 = .ok (.aload_n 0, 1) := by decide +kernel
theorem dX10_link_100 : decode cX10_link 100 = .ok (.iload 5, 2) := by decide +kernel
theorem dX10_link_102 : decode cX10_link 102 = .ok (.invokevirtual 74, 3) := by decide +kernel
theorem dX10_link_105 : decode cX10_link 105 = .ok (.ifCond .eq 20, 3) := by decide +kernel
theorem dX10_link_108 : decode cX10_link 108 = .ok (.aload_n 0, 1) := by decide +kernel
theorem dX10_link_109 : decode cX10_link 109 = .ok (.aload_n 0, 1) := by decide +kernel
theorem dX10_link_110 : decode cX10_link 110 = .ok (.getfield 26, 3) := by decide +kernel
theorem dX10_link_113 : decode cX10_link 113 = .ok (.iload_n 3, 1) := by decide +kernel
theorem dX10_link_114 : decode cX10_link 114 = .ok (.iaload, 1) := by decide +kernel
theorem dX10_link_115 : decode cX10_link 115 = .ok (.invokevirtual 74, 3) := by decide +kernel
theorem dX10_link_118 : decode cX10_link 118 = .ok (.ifCond .ne 7, 3) := by decide +kernel
theorem dX10_link_121 : decode cX10_link 121 = .ok (.iconst 1, 1) := by decide +kernel
theorem dX10_link_122 : decode cX10_link 122 = .ok (.goto 4, 3) := by decide +kernel
theorem dX10_link_125 : decode cX10_link 125 = .ok (.iconst 0, 1) := by decide +kernel
theorem dX10_link_126 : decode cX10_link 126 = .ok (.bastore, 1) := by decide +kernel
theorem dX10_link_127 : decode cX10_link 127 = .ok (.iconst 0, 1) := by decide +kernel
theorem dX10_link_128 : decode cX10_link 128 = .ok (.ireturn, 1) := by decide +kernel
theorem dX10_refers_0 : decode cX10_refers 0 = .ok (.aload_n 0, 1) := by decide +kernel
theorem dX10_refers_1 : decode cX10_refers 1 = .ok (.iconst 0, 1) := by decide +kernel
theorem dX10_refers_2 : decode cX10_refers 2 = .ok (.putfield 48, 3) := by decide +kernel
theorem dX10_refers_5 : decode cX10_refers 5 = .ok (.aload_n 0, 1) := by decide +kernel
theorem dX10_refers_6 : decode cX10_refers 6 = .ok (.iload_n 1, 1) := by decide +kernel
theorem dX10_refers_7 : decode cX10_refers 7 = .ok (.iload_n 2, 1) := by decide +kernel
theorem dX10_refers_8 : decode cX10_refers 8 = .ok (.invokevirtual 134, 3) := by decide +kernel
theorem dX10_refers_11 : decode cX10_refers 11 = .ok (.istore_n 3, 1) := by decide +kernel
theorem dX10_refers_12 : decode cX10_refers 12 = .ok (.iload_n 3, 1) := by decide +kernel
theorem dX10_refers_13 : decode cX10_refers 13 = .ok (.ifCond .eq 7, 3) := by decide +kernel
theorem dX10_refers_16 : decode cX10_refers 16 = .ok (.iload_n 3, 1) := by decide +kernel
theorem dX10_refers_17 : decode cX10_refers 17 = .ok (.goto 28, 3) := by decide +kernel
theorem dX10_refers_20 : decode cX10_refers 20 = .ok (.aload_n 0, 1) := by decide +kernel
theorem dX10_refers_21 : decode cX10_refers 21 = .ok (.getfield 23, 3) := by decide +kernel
theorem dX10_refers_24 : decode cX10_refers 24 = .ok (.bipush 6, 2) := by decide +kernel
theorem dX10_refers_26 : decode cX10_refers 26 = .ok (.aload_n 0, 1) := by decide +kernel
theorem dX10_refers_27 : decode cX10_refers 27 = .ok (.getfield 26, 3) := by decide +kernel
theorem dX10_refers_30 : decode cX10_refers 30 = .ok (.iload_n 1, 1) := by decide +kernel
theorem dX10_refers_31 : decode cX10_refers 31 = .ok (.iaload, 1) := by decide +kernel
theorem dX10_refers_32 : decode cX10_refers 32 = .ok (.imul, 1) := by decide +kernel
theorem dX10_refers_33 : decode cX10_refers 33 = .ok (.iload_n 2, 1) := by decide +kernel
theorem dX10_refers_34 : decode cX10_refers 34 = .ok (.iadd, 1) := by decide +kernel
theorem dX10_refers_35 : decode cX10_refers 35 = .ok (.iaload, 1) := by decide +kernel
theorem dX10_refers_36 : decode cX10_refers 36 = .ok (.iconst (-1), 1) := by decide +kernel
theorem dX10_refers_37 : decode cX10_refers 37 = .ok (.if_icmp .eq 7, 3) := by decide +kernel
theorem dX10_refers_40 : decode cX10_refers 40 = .ok (.iconst 1, 1) := by decide +kernel
theorem dX10_refers_41 : decode cX10_refers 41 = .ok (.goto 4, 3) := by decide +kernel
theorem dX10_refers_44 : decode cX10_refers 44 = .ok (.iconst 0, 1) := by decide +kernel
theorem dX10_refers_45 : decode cX10_refers 45 = .ok (.ireturn, 1) := by decide +kernel
theorem dX10_number_0 : decode cX10_number 0 = .ok (.aload_n 0, 1) := by decide +kernel
theorem dX10_number_1 : decode cX10_number 1 = .ok (.iconst 0, 1) := by decide +kernel
theorem dX10_number_2 : decode cX10_number 2 = .ok (.putfield 48, 3) := by decide +kernel
theorem dX10_number_5 : decode cX10_number 5 = .ok (.aload_n 0, 1) := by decide +kernel
theorem dX10_number_6 : decode cX10_number 6 = .ok (.iload_n 1, 1) := by decide +kernel
theorem dX10_number_7 : decode cX10_number 7 = .ok (.iload_n 2, 1) := by decide +kernel
theorem dX10_number_8 : decode cX10_number 8 = .ok (.invokevirtual 134, 3) := by decide +kernel
theorem dX10_number_11 : decode cX10_number 11 = .ok (.ifCond .eq 7, 3) := by decide +kernel
theorem dX10_number_14 : decode cX10_number 14 = .ok (.iconst 0, 1) := by decide +kernel
theorem dX10_number_15 : decode cX10_number 15 = .ok (.goto 19, 3) := by decide +kernel
theorem dX10_number_18 : decode cX10_number 18 = .ok (.aload_n 0, 1) := by decide +kernel
theorem dX10_number_19 : decode cX10_number 19 = .ok (.getfield 20, 3) := by decide +kernel
theorem dX10_number_22 : decode cX10_number 22 = .ok (.bipush 6, 2) := by decide +kernel
theorem dX10_number_24 : decode cX10_number 24 = .ok (.aload_n 0, 1) := by decide +kernel
theorem dX10_number_25 : decode cX10_number 25 = .ok (.getfield 26, 3) := by decide +kernel
theorem dX10_number_28 : decode cX10_number 28 = .ok (.iload_n 1, 1) := by decide +kernel
theorem dX10_number_29 : decode cX10_number 29 = .ok (.iaload, 1) := by decide +kernel
theorem dX10_number_30 : decode cX10_number 30 = .ok (.imul, 1) := by decide +kernel
theorem dX10_number_31 : decode cX10_number 31 = .ok (.iload_n 2, 1) := by decide +kernel
theorem dX10_number_32 : decode cX10_number 32 = .ok (.iadd, 1) := by decide +kernel
theorem dX10_number_33 : decode cX10_number 33 = .ok (.iaload, 1) := by decide +kernel
theorem dX10_number_34 : decode cX10_number 34 = .ok (.ireturn, 1) := by decide +kernel
theorem dX10_load_0 : decode cX10_load 0 = .ok (.aload_n 0, 1) := by decide +kernel
theorem dX10_load_1 : decode cX10_load 1 = .ok (.iconst 0, 1) := by decide +kernel
theorem dX10_load_2 : decode cX10_load 2 = .ok (.putfield 48, 3) := by decide +kernel
theorem dX10_load_5 : decode cX10_load 5 = .ok (.aload_n 0, 1) := by decide +kernel
theorem dX10_load_6 : decode cX10_load 6 = .ok (.iload_n 2, 1) := by decide +kernel
theorem dX10_load_7 : decode cX10_load 7 = .ok (.iload_n 3, 1) := by decide +kernel
theorem dX10_load_8 : decode cX10_load 8 = .ok (.invokevirtual 134, 3) := by decide +kernel
theorem dX10_load_11 : decode cX10_load 11 = .ok (.istore 4, 2) := by decide +kernel
theorem dX10_load_13 : decode cX10_load 13 = .ok (.iload_n 1, 1) := by decide +kernel
theorem dX10_load_14 : decode cX10_load 14 = .ok (.invokestatic 124, 3) := by decide +kernel
theorem dX10_load_17 : decode cX10_load 17 = .ok (.ifCond .ne 6, 3) := by decide +kernel
theorem dX10_load_20 : decode cX10_load 20 = .ok (.bipush (-2), 2) := by decide +kernel
theorem dX10_load_22 : decode cX10_load 22 = .ok (.ireturn, 1) := by decide +kernel
theorem dX10_load_23 : decode cX10_load 23 = .ok (.iload 4, 2) := by decide +kernel
theorem dX10_load_25 : decode cX10_load 25 = .ok (.ifCond .eq 6, 3) := by decide +kernel
theorem dX10_load_28 : decode cX10_load 28 = .ok (.iload 4, 2) := by decide +kernel
theorem dX10_load_30 : decode cX10_load 30 = .ok (.ireturn, 1) := by decide +kernel
theorem dX10_load_31 : decode cX10_load 31 = .ok (.aload_n 0, 1) := by decide +kernel
theorem dX10_load_32 : decode cX10_load 32 = .ok (.getfield 23, 3) := by decide +kernel
theorem dX10_load_35 : decode cX10_load 35 = .ok (.bipush 6, 2) := by decide +kernel
theorem dX10_load_37 : decode cX10_load 37 = .ok (.aload_n 0, 1) := by decide +kernel
theorem dX10_load_38 : decode cX10_load 38 = .ok (.getfield 26, 3) := by decide +kernel
theorem dX10_load_41 : decode cX10_load 41 = .ok (.iload_n 2, 1) := by decide +kernel
theorem dX10_load_42 : decode cX10_load 42 = .ok (.iaload, 1) := by decide +kernel
theorem dX10_load_43 : decode cX10_load 43 = .ok (.imul, 1) := by decide +kernel
theorem dX10_load_44 : decode cX10_load 44 = .ok (.iload_n 3, 1) := by decide +kernel
theorem dX10_load_45 : decode cX10_load 45 = .ok (.iadd, 1) := by decide +kernel
theorem dX10_load_46 : decode cX10_load 46 = .ok (.iaload, 1) := by decide +kernel
theorem dX10_load_47 : decode cX10_load 47 = .ok (.istore 5, 2) := by decide +kernel
theorem dX10_load_49 : decode cX10_load 49 = .ok (.iload 5, 2) := by decide +kernel
theorem dX10_load_51 : decode cX10_load 51 = .ok (.iconst (-1), 1) := by decide +kernel
theorem dX10_load_52 : decode cX10_load 52 = .ok (.if_icmp .ne 6, 3) := by decide +kernel
theorem dX10_load_55 : decode cX10_load 55 = .ok (.bipush (-3), 2) := by decide +kernel
theorem dX10_load_57 : decode cX10_load 57 = .ok (.ireturn, 1) := by decide +kernel
theorem dX10_load_58 : decode cX10_load 58 = .ok (.aload_n 0, 1) := by decide +kernel
theorem dX10_load_59 : decode cX10_load 59 = .ok (.getfield 26, 3) := by decide +kernel
theorem dX10_load_62 : decode cX10_load 62 = .ok (.iload_n 1, 1) := by decide +kernel
theorem dX10_load_63 : decode cX10_load 63 = .ok (.iload 5, 2) := by decide +kernel
theorem dX10_load_65 : decode cX10_load 65 = .ok (.iastore, 1) := by decide +kernel
theorem dX10_load_66 : decode cX10_load 66 = .ok (.iload 5, 2) := by decide +kernel
theorem dX10_load_68 : decode cX10_load 68 = .ok (.ireturn, 1) := by decide +kernel
theorem dX10_copy_0 : decode cX10_copy 0 = .ok (.aload_n 0, 1) := by decide +kernel
theorem dX10_copy_1 : decode cX10_copy 1 = .ok (.iconst 0, 1) := by decide +kernel
theorem dX10_copy_2 : decode cX10_copy 2 = .ok (.putfield 48, 3) := by decide +kernel
theorem dX10_copy_5 : decode cX10_copy 5 = .ok (.iload_n 1, 1) := by decide +kernel
theorem dX10_copy_6 : decode cX10_copy 6 = .ok (.invokestatic 124, 3) := by decide +kernel
theorem dX10_copy_9 : decode cX10_copy 9 = .ok (.ifCond .eq 10, 3) := by decide +kernel
theorem dX10_copy_12 : decode cX10_copy 12 = .ok (.iload_n 2, 1) := by decide +kernel
