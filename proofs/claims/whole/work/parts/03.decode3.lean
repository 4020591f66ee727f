theorem dX10_copy_13 : decode cX10_copy 13 = .ok (.invokestatic 124, 3) := by decide +kernel
theorem dX10_copy_16 : decode cX10_copy 16 = .ok (.ifCond .ne 6, 3) := by decide +kernel
theorem dX10_copy_19 : decode cX10_copy 19 = .ok (.bipush (-2), 2) := by decide +kernel
theorem dX10_copy_21 : decode cX10_copy 21 = .ok (.ireturn, 1) := by decide +kernel
theorem dX10_copy_22 : decode cX10_copy 22 = .ok (.aload_n 0, 1) := by decide +kernel
theorem dX10_copy_23 : decode cX10_copy 23 = .ok (.getfield 26, 3) := by decide +kernel
theorem dX10_copy_26 : decode cX10_copy 26 = .ok (.iload_n 1, 1) := by decide +kernel
theorem dX10_copy_27 : decode cX10_copy 27 = .ok (.aload_n 0, 1) := by decide +kernel
theorem dX10_copy_28 : decode cX10_copy 28 = .ok (.getfield 26, 3) := by decide +kernel
theorem dX10_copy_31 : decode cX10_copy 31 = .ok (.iload_n 2, 1) := by decide +kernel
theorem dX10_copy_32 : decode cX10_copy 32 = .ok (.iaload, 1) := by decide +kernel
theorem dX10_copy_33 : decode cX10_copy 33 = .ok (.iastore, 1) := by decide +kernel
theorem dX10_copy_34 : decode cX10_copy 34 = .ok (.aload_n 0, 1) := by decide +kernel
theorem dX10_copy_35 : decode cX10_copy 35 = .ok (.getfield 26, 3) := by decide +kernel
theorem dX10_copy_38 : decode cX10_copy 38 = .ok (.iload_n 1, 1) := by decide +kernel
theorem dX10_copy_39 : decode cX10_copy 39 = .ok (.iaload, 1) := by decide +kernel
theorem dX10_copy_40 : decode cX10_copy 40 = .ok (.ireturn, 1) := by decide +kernel
theorem dX10_drop_0 : decode cX10_drop 0 = .ok (.aload_n 0, 1) := by decide +kernel
theorem dX10_drop_1 : decode cX10_drop 1 = .ok (.iconst 0, 1) := by decide +kernel
theorem dX10_drop_2 : decode cX10_drop 2 = .ok (.putfield 48, 3) := by decide +kernel
theorem dX10_drop_5 : decode cX10_drop 5 = .ok (.iload_n 1, 1) := by decide +kernel
theorem dX10_drop_6 : decode cX10_drop 6 = .ok (.invokestatic 124, 3) := by decide +kernel
theorem dX10_drop_9 : decode cX10_drop 9 = .ok (.ifCond .ne 6, 3) := by decide +kernel
theorem dX10_drop_12 : decode cX10_drop 12 = .ok (.bipush (-2), 2) := by decide +kernel
theorem dX10_drop_14 : decode cX10_drop 14 = .ok (.ireturn, 1) := by decide +kernel
theorem dX10_drop_15 : decode cX10_drop 15 = .ok (.aload_n 0, 1) := by decide +kernel
theorem dX10_drop_16 : decode cX10_drop 16 = .ok (.getfield 26, 3) := by decide +kernel
theorem dX10_drop_19 : decode cX10_drop 19 = .ok (.iload_n 1, 1) := by decide +kernel
theorem dX10_drop_20 : decode cX10_drop 20 = .ok (.iaload, 1) := by decide +kernel
theorem dX10_drop_21 : decode cX10_drop 21 = .ok (.iconst (-1), 1) := by decide +kernel
theorem dX10_drop_22 : decode cX10_drop 22 = .ok (.if_icmp .ne 7, 3) := by decide +kernel
theorem dX10_drop_25 : decode cX10_drop 25 = .ok (.iconst 0, 1) := by decide +kernel
theorem dX10_drop_26 : decode cX10_drop 26 = .ok (.goto 4, 3) := by decide +kernel
theorem dX10_drop_29 : decode cX10_drop 29 = .ok (.iconst 1, 1) := by decide +kernel
theorem dX10_drop_30 : decode cX10_drop 30 = .ok (.istore_n 2, 1) := by decide +kernel
theorem dX10_drop_31 : decode cX10_drop 31 = .ok (.aload_n 0, 1) := by decide +kernel
theorem dX10_drop_32 : decode cX10_drop 32 = .ok (.getfield 26, 3) := by decide +kernel
theorem dX10_drop_35 : decode cX10_drop 35 = .ok (.iload_n 1, 1) := by decide +kernel
theorem dX10_drop_36 : decode cX10_drop 36 = .ok (.iconst (-1), 1) := by decide +kernel
theorem dX10_drop_37 : decode cX10_drop 37 = .ok (.iastore, 1) := by decide +kernel
theorem dX10_drop_38 : decode cX10_drop 38 = .ok (.iload_n 2, 1) := by decide +kernel
theorem dX10_drop_39 : decode cX10_drop 39 = .ok (.ireturn, 1) := by decide +kernel
theorem dX10_collect_0 : decode cX10_collect 0 = .ok (.aload_n 0, 1) := by decide +kernel
theorem dX10_collect_1 : decode cX10_collect 1 = .ok (.iconst 0, 1) := by decide +kernel
theorem dX10_collect_2 : decode cX10_collect 2 = .ok (.putfield 48, 3) := by decide +kernel
theorem dX10_collect_5 : decode cX10_collect 5 = .ok (.aload_n 0, 1) := by decide +kernel
theorem dX10_collect_6 : decode cX10_collect 6 = .ok (.invokevirtual 131, 3) := by decide +kernel
theorem dX10_collect_9 : decode cX10_collect 9 = .ok (.istore_n 1, 1) := by decide +kernel
theorem dX10_collect_10 : decode cX10_collect 10 = .ok (.iload_n 1, 1) := by decide +kernel
theorem dX10_collect_11 : decode cX10_collect 11 = .ok (.iconst (-1), 1) := by decide +kernel
theorem dX10_collect_12 : decode cX10_collect 12 = .ok (.if_icmp .ne 8, 3) := by decide +kernel
theorem dX10_collect_15 : decode cX10_collect 15 = .ok (.bipush (-4), 2) := by decide +kernel
theorem dX10_collect_17 : decode cX10_collect 17 = .ok (.goto 4, 3) := by decide +kernel
theorem dX10_collect_20 : decode cX10_collect 20 = .ok (.iload_n 1, 1) := by decide +kernel
theorem dX10_collect_21 : decode cX10_collect 21 = .ok (.ireturn, 1) := by decide +kernel
theorem dX10_minor_0 : decode cX10_minor 0 = .ok (.aload_n 0, 1) := by decide +kernel
theorem dX10_minor_1 : decode cX10_minor 1 = .ok (.iconst 0, 1) := by decide +kernel
theorem dX10_minor_2 : decode cX10_minor 2 = .ok (.putfield 48, 3) := by decide +kernel
theorem dX10_minor_5 : decode cX10_minor 5 = .ok (.aload_n 0, 1) := by decide +kernel
theorem dX10_minor_6 : decode cX10_minor 6 = .ok (.getfield 41, 3) := by decide +kernel
theorem dX10_minor_9 : decode cX10_minor 9 = .ok (.iconst 2, 1) := by decide +kernel
theorem dX10_minor_10 : decode cX10_minor 10 = .ok (.if_icmp .eq 6, 3) := by decide +kernel
theorem dX10_minor_13 : decode cX10_minor 13 = .ok (.bipush (-2), 2) := by decide +kernel
theorem dX10_minor_15 : decode cX10_minor 15 = .ok (.ireturn, 1) := by decide +kernel
theorem dX10_minor_16 : decode cX10_minor 16 = .ok (.aload_n 0, 1) := by decide +kernel
theorem dX10_minor_17 : decode cX10_minor 17 = .ok (.invokevirtual 121, 3) := by decide +kernel
theorem dX10_minor_20 : decode cX10_minor 20 = .ok (.istore_n 1, 1) := by decide +kernel
theorem dX10_minor_21 : decode cX10_minor 21 = .ok (.iload_n 1, 1) := by decide +kernel
theorem dX10_minor_22 : decode cX10_minor 22 = .ok (.iconst (-1), 1) := by decide +kernel
theorem dX10_minor_23 : decode cX10_minor 23 = .ok (.if_icmp .ne 8, 3) := by decide +kernel
theorem dX10_minor_26 : decode cX10_minor 26 = .ok (.bipush (-4), 2) := by decide +kernel
theorem dX10_minor_28 : decode cX10_minor 28 = .ok (.goto 4, 3) := by decide +kernel
theorem dX10_minor_31 : decode cX10_minor 31 = .ok (.iload_n 1, 1) := by decide +kernel
theorem dX10_minor_32 : decode cX10_minor 32 = .ok (.ireturn, 1) := by decide +kernel
theorem dX10_object_0 : decode cX10_object 0 = .ok (.aload_n 0, 1) := by decide +kernel
theorem dX10_object_1 : decode cX10_object 1 = .ok (.iconst 0, 1) := by decide +kernel
theorem dX10_object_2 : decode cX10_object 2 = .ok (.putfield 48, 3) := by decide +kernel
theorem dX10_object_5 : decode cX10_object 5 = .ok (.iload_n 1, 1) := by decide +kernel
theorem dX10_object_6 : decode cX10_object 6 = .ok (.invokestatic 124, 3) := by decide +kernel
theorem dX10_object_9 : decode cX10_object 9 = .ok (.ifCond .eq 12, 3) := by decide +kernel
theorem dX10_object_12 : decode cX10_object 12 = .ok (.iload_n 2, 1) := by decide +kernel
theorem dX10_object_13 : decode cX10_object 13 = .ok (.iconst 0, 1) := by decide +kernel
theorem dX10_object_14 : decode cX10_object 14 = .ok (.iconst 4, 1) := by decide +kernel
theorem dX10_object_15 : decode cX10_object 15 = .ok (.invokestatic 51, 3) := by decide +kernel
theorem dX10_object_18 : decode cX10_object 18 = .ok (.ifCond .ne 6, 3) := by decide +kernel
theorem dX10_object_21 : decode cX10_object 21 = .ok (.bipush (-2), 2) := by decide +kernel
theorem dX10_object_23 : decode cX10_object 23 = .ok (.ireturn, 1) := by decide +kernel
theorem dX10_object_24 : decode cX10_object 24 = .ok (.aload_n 0, 1) := by decide +kernel
theorem dX10_object_25 : decode cX10_object 25 = .ok (.getfield 26, 3) := by decide +kernel
theorem dX10_object_28 : decode cX10_object 28 = .ok (.iload_n 1, 1) := by decide +kernel
theorem dX10_object_29 : decode cX10_object 29 = .ok (.iaload, 1) := by decide +kernel
theorem dX10_object_30 : decode cX10_object 30 = .ok (.istore_n 3, 1) := by decide +kernel
theorem dX10_object_31 : decode cX10_object 31 = .ok (.iload_n 3, 1) := by decide +kernel
theorem dX10_object_32 : decode cX10_object 32 = .ok (.iconst (-1), 1) := by decide +kernel
theorem dX10_object_33 : decode cX10_object 33 = .ok (.if_icmp .ne 6, 3) := by decide +kernel
theorem dX10_object_36 : decode cX10_object 36 = .ok (.bipush (-3), 2) := by decide +kernel
theorem dX10_object_38 : decode cX10_object 38 = .ok (.ireturn, 1) := by decide +kernel
theorem dX10_object_39 : decode cX10_object 39 = .ok (.iload_n 2, 1) := by decide +kernel
theorem dX10_object_40 : decode cX10_object 40 = .ok (.ifCond .ne 7, 3) := by decide +kernel
theorem dX10_object_43 : decode cX10_object 43 = .ok (.iload_n 3, 1) := by decide +kernel
theorem dX10_object_44 : decode cX10_object 44 = .ok (.goto 66, 3) := by decide +kernel
theorem dX10_object_47 : decode cX10_object 47 = .ok (.iload_n 2, 1) := by decide +kernel
theorem dX10_object_48 : decode cX10_object 48 = .ok (.iconst 1, 1) := by decide +kernel
theorem dX10_object_49 : decode cX10_object 49 = .ok (.if_icmp .ne 12, 3) := by decide +kernel
theorem dX10_object_52 : decode cX10_object 52 = .ok (.aload_n 0, 1) := by decide +kernel
theorem dX10_object_53 : decode cX10_object 53 = .ok (.getfield 7, 3) := by decide +kernel
theorem dX10_object_56 : decode cX10_object 56 = .ok (.iload_n 3, 1) := by decide +kernel
theorem dX10_object_57 : decode cX10_object 57 = .ok (.iaload, 1) := by decide +kernel
theorem dX10_object_58 : decode cX10_object 58 = .ok (.goto 52, 3) := by decide +kernel
theorem dX10_object_61 : decode cX10_object 61 = .ok (.iload_n 2, 1) := by decide +kernel
theorem dX10_object_62 : decode cX10_object 62 = .ok (.iconst 2, 1) := by decide +kernel
theorem dX10_object_63 : decode cX10_object 63 = .ok (.if_icmp .ne 12, 3) := by decide +kernel
theorem dX10_object_66 : decode cX10_object 66 = .ok (.aload_n 0, 1) := by decide +kernel
theorem dX10_object_67 : decode cX10_object 67 = .ok (.getfield 13, 3) := by decide +kernel
theorem dX10_object_70 : decode cX10_object 70 = .ok (.iload_n 3, 1) := by decide +kernel
theorem dX10_object_71 : decode cX10_object 71 = .ok (.iaload, 1) := by decide +kernel
theorem dX10_object_72 : decode cX10_object 72 = .ok (.goto 38, 3) := by decide +kernel
theorem dX10_object_75 : decode cX10_object 75 = .ok (.iload_n 2, 1) := by decide +kernel
theorem dX10_object_76 : decode cX10_object 76 = .ok (.iconst 3, 1) := by decide +kernel
theorem dX10_object_77 : decode cX10_object 77 = .ok (.if_icmp .ne 19, 3) := by decide +kernel
theorem dX10_object_80 : decode cX10_object 80 = .ok (.aload_n 0, 1) := by decide +kernel
theorem dX10_object_81 : decode cX10_object 81 = .ok (.iload_n 3, 1) := by decide +kernel
theorem dX10_object_82 : decode cX10_object 82 = .ok (.invokevirtual 74, 3) := by decide +kernel
theorem dX10_object_85 : decode cX10_object 85 = .ok (.ifCond .eq 7, 3) := by decide +kernel
theorem dX10_object_88 : decode cX10_object 88 = .ok (.iconst 1, 1) := by decide +kernel
theorem dX10_object_89 : decode cX10_object 89 = .ok (.goto 21, 3) := by decide +kernel
theorem dX10_object_92 : decode cX10_object 92 = .ok (.iconst 0, 1) := by decide +kernel
theorem dX10_object_93 : decode cX10_object 93 = .ok (.goto 17, 3) := by decide +kernel
theorem dX10_object_96 : decode cX10_object 96 = .ok (.aload_n 0, 1) := by decide +kernel
theorem dX10_object_97 : decode cX10_object 97 = .ok (.getfield 16, 3) := by decide +kernel
theorem dX10_object_100 : decode cX10_object 100 = .ok (.iload_n 3, 1) := by decide +kernel
theorem dX10_object_101 : decode cX10_object 101 = .ok (.baload, 1) := by decide +kernel
theorem dX10_object_102 : decode cX10_object 102 = .ok (.ifCond .eq 7, 3) := by decide +kernel
theorem dX10_object_105 : decode cX10_object 105 = .ok (.iconst 1, 1) := by decide +kernel
theorem dX10_object_106 : decode cX10_object 106 = .ok (.goto 4, 3) := by decide +kernel
theorem dX10_object_109 : decode cX10_object 109 = .ok (.iconst 0, 1) := by decide +kernel
theorem dX10_object_110 : decode cX10_object 110 = .ok (.ireturn, 1) := by decide +kernel
theorem dX10_at_0 : decode cX10_at 0 = .ok (.aload_n 0, 1) := by decide +kernel
theorem dX10_at_1 : decode cX10_at 1 = .ok (.iconst 0, 1) := by decide +kernel
theorem dX10_at_2 : decode cX10_at 2 = .ok (.putfield 48, 3) := by decide +kernel
theorem dX10_at_5 : decode cX10_at 5 = .ok (.iload_n 1, 1) := by decide +kernel
theorem dX10_at_6 : decode cX10_at 6 = .ok (.iconst 0, 1) := by decide +kernel
theorem dX10_at_7 : decode cX10_at 7 = .ok (.aload_n 0, 1) := by decide +kernel
theorem dX10_at_8 : decode cX10_at 8 = .ok (.getfield 45, 3) := by decide +kernel
theorem dX10_at_11 : decode cX10_at 11 = .ok (.iconst 1, 1) := by decide +kernel
theorem dX10_at_12 : decode cX10_at 12 = .ok (.isub, 1) := by decide +kernel
theorem dX10_at_13 : decode cX10_at 13 = .ok (.invokestatic 51, 3) := by decide +kernel
theorem dX10_at_16 : decode cX10_at 16 = .ok (.ifCond .eq 12, 3) := by decide +kernel
theorem dX10_at_19 : decode cX10_at 19 = .ok (.aload_n 0, 1) := by decide +kernel
theorem dX10_at_20 : decode cX10_at 20 = .ok (.getfield 29, 3) := by decide +kernel
theorem dX10_at_23 : decode cX10_at 23 = .ok (.iload_n 1, 1) := by decide +kernel
theorem dX10_at_24 : decode cX10_at 24 = .ok (.iaload, 1) := by decide +kernel
theorem dX10_at_25 : decode cX10_at 25 = .ok (.goto 5, 3) := by decide +kernel
theorem dX10_at_28 : decode cX10_at 28 = .ok (.bipush (-2), 2) := by decide +kernel
theorem dX10_at_30 : decode cX10_at 30 = .ok (.ireturn, 1) := by decide +kernel
theorem dX10_count_0 : decode cX10_count 0 = .ok (.aload_n 0, 1) := by decide +kernel
theorem dX10_count_1 : decode cX10_count 1 = .ok (.iconst 0, 1) := by decide +kernel
theorem dX10_count_2 : decode cX10_count 2 = .ok (.putfield 48, 3) := by decide +kernel
theorem dX10_count_5 : decode cX10_count 5 = .ok (.iconst 0, 1) := by decide +kernel
theorem dX10_count_6 : decode cX10_count 6 = .ok (.istore_n 2, 1) := by decide +kernel
theorem dX10_count_7 : decode cX10_count 7 = .ok (.iconst 0, 1) := by decide +kernel
theorem dX10_count_8 : decode cX10_count 8 = .ok (.istore_n 3, 1) := by decide +kernel
theorem dX10_count_9 : decode cX10_count 9 = .ok (.iconst 0, 1) := by decide +kernel
theorem dX10_count_10 : decode cX10_count 10 = .ok (.istore 4, 2) := by decide +kernel
theorem dX10_count_12 : decode cX10_count 12 = .ok (.iconst 0, 1) := by decide +kernel
theorem dX10_count_13 : decode cX10_count 13 = .ok (.istore 5, 2) := by decide +kernel
theorem dX10_count_15 : decode cX10_count 15 = .ok (.iload 5, 2) := by decide +kernel
theorem dX10_count_17 : decode cX10_count 17 = .ok (.aload_n 0, 1) := by decide +kernel
theorem dX10_count_18 : decode cX10_count 18 = .ok (.getfield 62, 3) := by decide +kernel
theorem dX10_count_21 : decode cX10_count 21 = .ok (.if_icmp .ge 55, 3) := by decide +kernel
theorem dX10_count_24 : decode cX10_count 24 = .ok (.aload_n 0, 1) := by decide +kernel
theorem dX10_count_25 : decode cX10_count 25 = .ok (.getfield 7, 3) := by decide +kernel
theorem dX10_count_28 : decode cX10_count 28 = .ok (.iload 5, 2) := by decide +kernel
theorem dX10_count_30 : decode cX10_count 30 = .ok (.iaload, 1) := by decide +kernel
theorem dX10_count_31 : decode cX10_count 31 = .ok (.iconst (-1), 1) := by decide +kernel
theorem dX10_count_32 : decode cX10_count 32 = .ok (.if_icmp .eq 38, 3) := by decide +kernel
theorem dX10_count_35 : decode cX10_count 35 = .ok (.iinc 2 1, 3) := by decide +kernel
theorem dX10_count_38 : decode cX10_count 38 = .ok (.iload_n 3, 1) := by decide +kernel
theorem dX10_count_39 : decode cX10_count 39 = .ok (.iconst 1, 1) := by decide +kernel
theorem dX10_count_40 : decode cX10_count 40 = .ok (.aload_n 0, 1) := by decide +kernel
theorem dX10_count_41 : decode cX10_count 41 = .ok (.getfield 13, 3) := by decide +kernel
theorem dX10_count_44 : decode cX10_count 44 = .ok (.iload 5, 2) := by decide +kernel
theorem dX10_count_46 : decode cX10_count 46 = .ok (.iaload, 1) := by decide +kernel
theorem dX10_count_47 : decode cX10_count 47 = .ok (.iadd, 1) := by decide +kernel
theorem dX10_count_48 : decode cX10_count 48 = .ok (.iadd, 1) := by decide +kernel
theorem dX10_count_49 : decode cX10_count 49 = .ok (.istore_n 3, 1) := by decide +kernel
theorem dX10_count_50 : decode cX10_count 50 = .ok (.iload 4, 2) := by decide +kernel
theorem dX10_count_52 : decode cX10_count 52 = .ok (.aload_n 0, 1) := by decide +kernel
theorem dX10_count_53 : decode cX10_count 53 = .ok (.getfield 16, 3) := by decide +kernel
theorem dX10_count_56 : decode cX10_count 56 = .ok (.iload 5, 2) := by decide +kernel
theorem dX10_count_58 : decode cX10_count 58 = .ok (.baload, 1) := by decide +kernel
theorem dX10_count_59 : decode cX10_count 59 = .ok (.ifCond .eq 7, 3) := by decide +kernel
theorem dX10_count_62 : decode cX10_count 62 = .ok (.iconst 1, 1) := by decide +kernel
theorem dX10_count_63 : decode cX10_count 63 = .ok (.goto 4, 3) := by decide +kernel
theorem dX10_count_66 : decode cX10_count 66 = .ok (.iconst 0, 1) := by decide +kernel
theorem dX10_count_67 : decode cX10_count 67 = .ok (.iadd, 1) := by decide +kernel
theorem dX10_count_68 : decode cX10_count 68 = .ok (.istore 4, 2) := by decide +kernel
theorem dX10_count_70 : decode cX10_count 70 = .ok (.iinc 5 1, 3) := by decide +kernel
theorem dX10_count_73 : decode cX10_count 73 = .ok (.goto (-58), 3) := by decide +kernel
theorem dX10_count_76 : decode cX10_count 76 = .ok (.iload_n 1, 1) := by decide +kernel
theorem dX10_count_77 : decode cX10_count 77 = .ok (.tableswitch 92 0 8 #[51, 53, 55, 60, 65, 70, 75, 78, 87], 51) := by decide +kernel
theorem dX10_count_128 : decode cX10_count 128 = .ok (.iload_n 2, 1) := by decide +kernel
theorem dX10_count_129 : decode cX10_count 129 = .ok (.ireturn, 1) := by decide +kernel
theorem dX10_count_130 : decode cX10_count 130 = .ok (.iload_n 3, 1) := by decide +kernel
theorem dX10_count_131 : decode cX10_count 131 = .ok (.ireturn, 1) := by decide +kernel
theorem dX10_count_132 : decode cX10_count 132 = .ok (.aload_n 0, 1) := by decide +kernel
theorem dX10_count_133 : decode cX10_count 133 = .ok (.getfield 62, 3) := by decide +kernel
theorem dX10_count_136 : decode cX10_count 136 = .ok (.ireturn, 1) := by decide +kernel
theorem dX10_count_137 : decode cX10_count 137 = .ok (.aload_n 0, 1) := by decide +kernel
theorem dX10_count_138 : decode cX10_count 138 = .ok (.getfield 114, 3) := by decide +kernel
theorem dX10_count_141 : decode cX10_count 141 = .ok (.ireturn, 1) := by decide +kernel
theorem dX10_count_142 : decode cX10_count 142 = .ok (.aload_n 0, 1) := by decide +kernel
theorem dX10_count_143 : decode cX10_count 143 = .ok (.getfield 111, 3) := by decide +kernel
theorem dX10_count_146 : decode cX10_count 146 = .ok (.ireturn, 1) := by decide +kernel
theorem dX10_count_147 : decode cX10_count 147 = .ok (.aload_n 0, 1) := by decide +kernel
theorem dX10_count_148 : decode cX10_count 148 = .ok (.getfield 98, 3) := by decide +kernel
theorem dX10_count_151 : decode cX10_count 151 = .ok (.ireturn, 1) := by decide +kernel
theorem dX10_count_152 : decode cX10_count 152 = .ok (.iload 4, 2) := by decide +kernel
theorem dX10_count_154 : decode cX10_count 154 = .ok (.ireturn, 1) := by decide +kernel
theorem dX10_count_155 : decode cX10_count 155 = .ok (.aload_n 0, 1) := by decide +kernel
theorem dX10_count_156 : decode cX10_count 156 = .ok (.invokevirtual 81, 3) := by decide +kernel
theorem dX10_count_159 : decode cX10_count 159 = .ok (.aload_n 0, 1) := by decide +kernel
theorem dX10_count_160 : decode cX10_count 160 = .ok (.getfield 59, 3) := by decide +kernel
theorem dX10_count_163 : decode cX10_count 163 = .ok (.ireturn, 1) := by decide +kernel
theorem dX10_count_164 : decode cX10_count 164 = .ok (.aload_n 0, 1) := by decide +kernel
theorem dX10_count_165 : decode cX10_count 165 = .ok (.getfield 45, 3) := by decide +kernel
theorem dX10_count_168 : decode cX10_count 168 = .ok (.ireturn, 1) := by decide +kernel
theorem dX10_count_169 : decode cX10_count 169 = .ok (.bipush (-2), 2) := by decide +kernel
theorem dX10_count_171 : decode cX10_count 171 = .ok (.ireturn, 1) := by decide +kernel
theorem dX10_same_0 : decode cX10_same 0 = .ok (.aload_n 0, 1) := by decide +kernel
theorem dX10_same_1 : decode cX10_same 1 = .ok (.iconst 0, 1) := by decide +kernel
theorem dX10_same_2 : decode cX10_same 2 = .ok (.putfield 48, 3) := by decide +kernel
theorem dX10_same_5 : decode cX10_same 5 = .ok (.iload_n 1, 1) := by decide +kernel
theorem dX10_same_6 : decode cX10_same 6 = .ok (.invokestatic 124, 3) := by decide +kernel
theorem dX10_same_9 : decode cX10_same 9 = .ok (.ifCond .eq 10, 3) := by decide +kernel
theorem dX10_same_12 : decode cX10_same 12 = .ok (.iload_n 2, 1) := by decide +kernel
theorem dX10_same_13 : decode cX10_same 13 = .ok (.invokestatic 124, 3) := by decide +kernel
theorem dX10_same_16 : decode cX10_same 16 = .ok (.ifCond .ne 8, 3) := by decide +kernel
theorem dX10_same_19 : decode cX10_same 19 = .ok (.bipush (-2), 2) := by decide +kernel
theorem dX10_same_21 : decode cX10_same 21 = .ok (.goto 23, 3) := by decide +kernel
theorem dX10_same_24 : decode cX10_same 24 = .ok (.aload_n 0, 1) := by decide +kernel
theorem dX10_same_25 : decode cX10_same 25 = .ok (.getfield 26, 3) := by decide +kernel
theorem dX10_same_28 : decode cX10_same 28 = .ok (.iload_n 1, 1) := by decide +kernel
theorem dX10_same_29 : decode cX10_same 29 = .ok (.iaload, 1) := by decide +kernel
theorem dX10_same_30 : decode cX10_same 30 = .ok (.aload_n 0, 1) := by decide +kernel
theorem dX10_same_31 : decode cX10_same 31 = .ok (.getfield 26, 3) := by decide +kernel
theorem dX10_same_34 : decode cX10_same 34 = .ok (.iload_n 2, 1) := by decide +kernel
theorem dX10_same_35 : decode cX10_same 35 = .ok (.iaload, 1) := by decide +kernel
theorem dX10_same_36 : decode cX10_same 36 = .ok (.if_icmp .ne 7, 3) := by decide +kernel
theorem dX10_same_39 : decode cX10_same 39 = .ok (.iconst 1, 1) := by decide +kernel
theorem dX10_same_40 : decode cX10_same 40 = .ok (.goto 4, 3) := by decide +kernel
theorem dX10_same_43 : decode cX10_same 43 = .ok (.iconst 0, 1) := by decide +kernel
theorem dX10_same_44 : decode cX10_same 44 = .ok (.ireturn, 1) := by decide +kernel
theorem dX10_sum_0 : decode cX10_sum 0 = .ok (.aload_n 0, 1) := by decide +kernel
theorem dX10_sum_1 : decode cX10_sum 1 = .ok (.iconst 0, 1) := by decide +kernel
theorem dX10_sum_2 : decode cX10_sum 2 = .ok (.putfield 48, 3) := by decide +kernel
theorem dX10_sum_5 : decode cX10_sum 5 = .ok (.iload_n 1, 1) := by decide +kernel
theorem dX10_sum_6 : decode cX10_sum 6 = .ok (.invokestatic 124, 3) := by decide +kernel
theorem dX10_sum_9 : decode cX10_sum 9 = .ok (.ifCond .ne 7, 3) := by decide +kernel
theorem dX10_sum_12 : decode cX10_sum 12 = .ok (.ldc2_w 137, 3) := by decide +kernel
theorem dX10_sum_15 : decode cX10_sum 15 = .ok (.lreturn, 1) := by decide +kernel
theorem dX10_sum_16 : decode cX10_sum 16 = .ok (.aload_n 0, 1) := by decide +kernel
theorem dX10_sum_17 : decode cX10_sum 17 = .ok (.getfield 26, 3) := by decide +kernel
theorem dX10_sum_20 : decode cX10_sum 20 = .ok (.iload_n 1, 1) := by decide +kernel
theorem dX10_sum_21 : decode cX10_sum 21 = .ok (.iaload, 1) := by decide +kernel
theorem dX10_sum_22 : decode cX10_sum 22 = .ok (.iconst (-1), 1) := by decide +kernel
theorem dX10_sum_23 : decode cX10_sum 23 = .ok (.if_icmp .ne 5, 3) := by decide +kernel
theorem dX10_sum_26 : decode cX10_sum 26 = .ok (.lconst 0, 1) := by decide +kernel
theorem dX10_sum_27 : decode cX10_sum 27 = .ok (.lreturn, 1) := by decide +kernel
theorem dX10_sum_28 : decode cX10_sum 28 = .ok (.aload_n 0, 1) := by decide +kernel
theorem dX10_sum_29 : decode cX10_sum 29 = .ok (.invokevirtual 68, 3) := by decide +kernel
theorem dX10_sum_32 : decode cX10_sum 32 = .ok (.aload_n 0, 1) := by decide +kernel
theorem dX10_sum_33 : decode cX10_sum 33 = .ok (.aload_n 0, 1) := by decide +kernel
theorem dX10_sum_34 : decode cX10_sum 34 = .ok (.getfield 26, 3) := by decide +kernel
theorem dX10_sum_37 : decode cX10_sum 37 = .ok (.iload_n 1, 1) := by decide +kernel
theorem dX10_sum_38 : decode cX10_sum 38 = .ok (.iaload, 1) := by decide +kernel
theorem dX10_sum_39 : decode cX10_sum 39 = .ok (.invokevirtual 65, 3) := by decide +kernel
theorem dX10_sum_42 : decode cX10_sum 42 = .ok (.aload_n 0, 1) := by decide +kernel
theorem dX10_sum_43 : decode cX10_sum 43 = .ok (.invokevirtual 71, 3) := by decide +kernel
theorem dX10_sum_46 : decode cX10_sum 46 = .ok (.ldc2_w 139, 3) := by decide +kernel
theorem dX10_sum_49 : decode cX10_sum 49 = .ok (.lstore_n 2, 1) := by decide +kernel
theorem dX10_sum_50 : decode cX10_sum 50 = .ok (.iconst 0, 1) := by decide +kernel
theorem dX10_sum_51 : decode cX10_sum 51 = .ok (.istore 4, 2) := by decide +kernel
theorem dX10_sum_53 : decode cX10_sum 53 = .ok (.iload 4, 2) := by decide +kernel
theorem dX10_sum_55 : decode cX10_sum 55 = .ok (.aload_n 0, 1) := by decide +kernel
theorem dX10_sum_56 : decode cX10_sum 56 = .ok (.getfield 59, 3) := by decide +kernel
theorem dX10_sum_59 : decode cX10_sum 59 = .ok (.if_icmp .ge 117, 3) := by decide +kernel
theorem dX10_sum_62 : decode cX10_sum 62 = .ok (.aload_n 0, 1) := by decide +kernel
theorem dX10_sum_63 : decode cX10_sum 63 = .ok (.getfield 32, 3) := by decide +kernel
theorem dX10_sum_66 : decode cX10_sum 66 = .ok (.iload 4, 2) := by decide +kernel
theorem dX10_sum_68 : decode cX10_sum 68 = .ok (.iaload, 1) := by decide +kernel
theorem dX10_sum_69 : decode cX10_sum 69 = .ok (.istore 5, 2) := by decide +kernel
theorem dX10_sum_71 : decode cX10_sum 71 = .ok (.ldc2_w 141, 3) := by decide +kernel
theorem dX10_sum_74 : decode cX10_sum 74 = .ok (.lload_n 2, 1) := by decide +kernel
theorem dX10_sum_75 : decode cX10_sum 75 = .ok (.lmul, 1) := by decide +kernel
theorem dX10_sum_76 : decode cX10_sum 76 = .ok (.aload_n 0, 1) := by decide +kernel
theorem dX10_sum_77 : decode cX10_sum 77 = .ok (.getfield 13, 3) := by decide +kernel
theorem dX10_sum_80 : decode cX10_sum 80 = .ok (.iload 5, 2) := by decide +kernel
theorem dX10_sum_82 : decode cX10_sum 82 = .ok (.iaload, 1) := by decide +kernel
theorem dX10_sum_83 : decode cX10_sum 83 = .ok (.i2l, 1) := by decide +kernel
theorem dX10_sum_84 : decode cX10_sum 84 = .ok (.ladd, 1) := by decide +kernel
theorem dX10_sum_85 : decode cX10_sum 85 = .ok (.lstore_n 2, 1) := by decide +kernel
theorem dX10_sum_86 : decode cX10_sum 86 = .ok (.iconst 0, 1) := by decide +kernel
theorem dX10_sum_87 : decode cX10_sum 87 = .ok (.istore 6, 2) := by decide +kernel
theorem dX10_sum_89 : decode cX10_sum 89 = .ok (.iload 6, 2) := by decide +kernel
theorem dX10_sum_91 : decode cX10_sum 91 = .ok (.aload_n 0, 1) := by decide +kernel
theorem dX10_sum_92 : decode cX10_sum 92 = .ok (.getfield 13, 3) := by decide +kernel
theorem dX10_sum_95 : decode cX10_sum 95 = .ok (.iload 5, 2) := by decide +kernel
theorem dX10_sum_97 : decode cX10_sum 97 = .ok (.iaload, 1) := by decide +kernel
theorem dX10_sum_98 : decode cX10_sum 98 = .ok (.if_icmp .ge 72, 3) := by decide +kernel
theorem dX10_sum_101 : decode cX10_sum 101 = .ok (.aload_n 0, 1) := by decide +kernel
theorem dX10_sum_102 : decode cX10_sum 102 = .ok (.getfield 23, 3) := by decide +kernel
theorem dX10_sum_105 : decode cX10_sum 105 = .ok (.bipush 6, 2) := by decide +kernel
theorem dX10_sum_107 : decode cX10_sum 107 = .ok (.iload 5, 2) := by decide +kernel
theorem dX10_sum_109 : decode cX10_sum 109 = .ok (.imul, 1) := by decide +kernel
theorem dX10_sum_110 : decode cX10_sum 110 = .ok (.iload 6, 2) := by decide +kernel
theorem dX10_sum_112 : decode cX10_sum 112 = .ok (.iadd, 1) := by decide +kernel
theorem dX10_sum_113 : decode cX10_sum 113 = .ok (.iaload, 1) := by decide +kernel
theorem dX10_sum_114 : decode cX10_sum 114 = .ok (.istore 7, 2) := by decide +kernel
theorem dX10_sum_116 : decode cX10_sum 116 = .ok (.ldc2_w 141, 3) := by decide +kernel
theorem dX10_sum_119 : decode cX10_sum 119 = .ok (.lload_n 2, 1) := by decide +kernel
theorem dX10_sum_120 : decode cX10_sum 120 = .ok (.lmul, 1) := by decide +kernel
theorem dX10_sum_121 : decode cX10_sum 121 = .ok (.iload 7, 2) := by decide +kernel
theorem dX10_sum_123 : decode cX10_sum 123 = .ok (.iconst (-1), 1) := by decide +kernel
theorem dX10_sum_124 : decode cX10_sum 124 = .ok (.if_icmp .ne 24, 3) := by decide +kernel
theorem dX10_sum_127 : decode cX10_sum 127 = .ok (.ldc2_w 143, 3) := by decide +kernel
theorem dX10_sum_130 : decode cX10_sum 130 = .ok (.aload_n 0, 1) := by decide +kernel
theorem dX10_sum_131 : decode cX10_sum 131 = .ok (.getfield 20, 3) := by decide +kernel
theorem dX10_sum_134 : decode cX10_sum 134 = .ok (.bipush 6, 2) := by decide +kernel
theorem dX10_sum_136 : decode cX10_sum 136 = .ok (.iload 5, 2) := by decide +kernel
theorem dX10_sum_138 : decode cX10_sum 138 = .ok (.imul, 1) := by decide +kernel
theorem dX10_sum_139 : decode cX10_sum 139 = .ok (.iload 6, 2) := by decide +kernel
theorem dX10_sum_141 : decode cX10_sum 141 = .ok (.iadd, 1) := by decide +kernel
theorem dX10_sum_142 : decode cX10_sum 142 = .ok (.iaload, 1) := by decide +kernel
theorem dX10_sum_143 : decode cX10_sum 143 = .ok (.i2l, 1) := by decide +kernel
theorem dX10_sum_144 : decode cX10_sum 144 = .ok (.lmul, 1) := by decide +kernel
theorem dX10_sum_145 : decode cX10_sum 145 = .ok (.goto 17, 3) := by decide +kernel
theorem dX10_sum_148 : decode cX10_sum 148 = .ok (.ldc2_w 143, 3) := by decide +kernel
theorem dX10_sum_151 : decode cX10_sum 151 = .ok (.aload_n 0, 1) := by decide +kernel
theorem dX10_sum_152 : decode cX10_sum 152 = .ok (.getfield 35, 3) := by decide +kernel
theorem dX10_sum_155 : decode cX10_sum 155 = .ok (.iload 7, 2) := by decide +kernel
theorem dX10_sum_157 : decode cX10_sum 157 = .ok (.iaload, 1) := by decide +kernel
theorem dX10_sum_158 : decode cX10_sum 158 = .ok (.i2l, 1) := by decide +kernel
theorem dX10_sum_159 : decode cX10_sum 159 = .ok (.lmul, 1) := by decide +kernel
theorem dX10_sum_160 : decode cX10_sum 160 = .ok (.lconst 1, 1) := by decide +kernel
theorem dX10_sum_161 : decode cX10_sum 161 = .ok (.ladd, 1) := by decide +kernel
theorem dX10_sum_162 : decode cX10_sum 162 = .ok (.ladd, 1) := by decide +kernel
theorem dX10_sum_163 : decode cX10_sum 163 = .ok (.lstore_n 2, 1) := by decide +kernel
theorem dX10_sum_164 : decode cX10_sum 164 = .ok (.iinc 6 1, 3) := by decide +kernel
theorem dX10_sum_167 : decode cX10_sum 167 = .ok (.goto (-78), 3) := by decide +kernel
theorem dX10_sum_170 : decode cX10_sum 170 = .ok (.iinc 4 1, 3) := by decide +kernel
theorem dX10_sum_173 : decode cX10_sum 173 = .ok (.goto (-120), 3) := by decide +kernel
theorem dX10_sum_176 : decode cX10_sum 176 = .ok (.lload_n 2, 1) := by decide +kernel
theorem dX10_sum_177 : decode cX10_sum 177 = .ok (.lreturn, 1) := by decide +kernel
theorem dL_cell_0 : decode cL_cell 0 = .ok (.iload_n 1, 1) := by decide +kernel
theorem dL_cell_1 : decode cL_cell 1 = .ok (.aload_n 0, 1) := by decide +kernel
theorem dL_cell_2 : decode cL_cell 2 = .ok (.arraylength, 1) := by decide +kernel
theorem dL_cell_3 : decode cL_cell 3 = .ok (.if_icmp .ge 9, 3) := by decide +kernel
theorem dL_cell_6 : decode cL_cell 6 = .ok (.aload_n 0, 1) := by decide +kernel
theorem dL_cell_7 : decode cL_cell 7 = .ok (.iload_n 1, 1) := by decide +kernel
theorem dL_cell_8 : decode cL_cell 8 = .ok (.iaload, 1) := by decide +kernel
theorem dL_cell_9 : decode cL_cell 9 = .ok (.goto 4, 3) := by decide +kernel
theorem dL_cell_12 : decode cL_cell 12 = .ok (.iconst 0, 1) := by decide +kernel
theorem dL_cell_13 : decode cL_cell 13 = .ok (.ireturn, 1) := by decide +kernel
theorem dL_law_0 : decode cL_law 0 = .ok (.new 7, 3) := by decide +kernel
theorem dL_law_3 : decode cL_law 3 = .ok (.dup, 1) := by decide +kernel
theorem dL_law_4 : decode cL_law 4 = .ok (.aload_n 0, 1) := by decide +kernel
theorem dL_law_5 : decode cL_law 5 = .ok (.iconst 0, 1) := by decide +kernel
theorem dL_law_6 : decode cL_law 6 = .ok (.invokestatic 9, 3) := by decide +kernel
theorem dL_law_9 : decode cL_law 9 = .ok (.aload_n 0, 1) := by decide +kernel
theorem dL_law_10 : decode cL_law 10 = .ok (.iconst 1, 1) := by decide +kernel
theorem dL_law_11 : decode cL_law 11 = .ok (.invokestatic 9, 3) := by decide +kernel
theorem dL_law_14 : decode cL_law 14 = .ok (.invokespecial 15, 3) := by decide +kernel
theorem dL_law_17 : decode cL_law 17 = .ok (.astore_n 1, 1) := by decide +kernel
theorem dL_law_18 : decode cL_law 18 = .ok (.new 18, 3) := by decide +kernel
theorem dL_law_21 : decode cL_law 21 = .ok (.dup, 1) := by decide +kernel
theorem dL_law_22 : decode cL_law 22 = .ok (.aload_n 0, 1) := by decide +kernel
theorem dL_law_23 : decode cL_law 23 = .ok (.iconst 0, 1) := by decide +kernel
theorem dL_law_24 : decode cL_law 24 = .ok (.invokestatic 9, 3) := by decide +kernel
theorem dL_law_27 : decode cL_law 27 = .ok (.aload_n 0, 1) := by decide +kernel
theorem dL_law_28 : decode cL_law 28 = .ok (.iconst 1, 1) := by decide +kernel
theorem dL_law_29 : decode cL_law 29 = .ok (.invokestatic 9, 3) := by decide +kernel
theorem dL_law_32 : decode cL_law 32 = .ok (.invokespecial 20, 3) := by decide +kernel
theorem dL_law_35 : decode cL_law 35 = .ok (.astore_n 2, 1) := by decide +kernel
theorem dL_law_36 : decode cL_law 36 = .ok (.iconst 2, 1) := by decide +kernel
theorem dL_law_37 : decode cL_law 37 = .ok (.istore_n 3, 1) := by decide +kernel
theorem dL_law_38 : decode cL_law 38 = .ok (.iload_n 3, 1) := by decide +kernel
theorem dL_law_39 : decode cL_law 39 = .ok (.aload_n 0, 1) := by decide +kernel
theorem dL_law_40 : decode cL_law 40 = .ok (.arraylength, 1) := by decide +kernel
theorem dL_law_41 : decode cL_law 41 = .ok (.iconst 4, 1) := by decide +kernel
theorem dL_law_42 : decode cL_law 42 = .ok (.isub, 1) := by decide +kernel
theorem dL_law_43 : decode cL_law 43 = .ok (.if_icmp .gt 537, 3) := by decide +kernel
theorem dL_law_46 : decode cL_law 46 = .ok (.aload_n 0, 1) := by decide +kernel
theorem dL_law_47 : decode cL_law 47 = .ok (.iload_n 3, 1) := by decide +kernel
theorem dL_law_48 : decode cL_law 48 = .ok (.iaload, 1) := by decide +kernel
theorem dL_law_49 : decode cL_law 49 = .ok (.bipush 15, 2) := by decide +kernel
theorem dL_law_51 : decode cL_law 51 = .ok (.iand, 1) := by decide +kernel
theorem dL_law_52 : decode cL_law 52 = .ok (.tableswitch 522 0 14 #[76, 109, 152, 195, 228, 261, 304, 337, 360, 373, 386, 419, 442, 465, 498], 76) := by decide +kernel
theorem dL_law_128 : decode cL_law 128 = .ok (.aload_n 1, 1) := by decide +kernel
theorem dL_law_129 : decode cL_law 129 = .ok (.aload_n 0, 1) := by decide +kernel
theorem dL_law_130 : decode cL_law 130 = .ok (.iload_n 3, 1) := by decide +kernel
theorem dL_law_131 : decode cL_law 131 = .ok (.iconst 1, 1) := by decide +kernel
theorem dL_law_132 : decode cL_law 132 = .ok (.iadd, 1) := by decide +kernel
theorem dL_law_133 : decode cL_law 133 = .ok (.iaload, 1) := by decide +kernel
theorem dL_law_134 : decode cL_law 134 = .ok (.aload_n 0, 1) := by decide +kernel
theorem dL_law_135 : decode cL_law 135 = .ok (.iload_n 3, 1) := by decide +kernel
theorem dL_law_136 : decode cL_law 136 = .ok (.iconst 2, 1) := by decide +kernel
theorem dL_law_137 : decode cL_law 137 = .ok (.iadd, 1) := by decide +kernel
theorem dL_law_138 : decode cL_law 138 = .ok (.iaload, 1) := by decide +kernel
theorem dL_law_139 : decode cL_law 139 = .ok (.invokevirtual 21, 3) := by decide +kernel
theorem dL_law_142 : decode cL_law 142 = .ok (.aload_n 2, 1) := by decide +kernel
theorem dL_law_143 : decode cL_law 143 = .ok (.aload_n 0, 1) := by decide +kernel
theorem dL_law_144 : decode cL_law 144 = .ok (.iload_n 3, 1) := by decide +kernel
theorem dL_law_145 : decode cL_law 145 = .ok (.iconst 1, 1) := by decide +kernel
theorem dL_law_146 : decode cL_law 146 = .ok (.iadd, 1) := by decide +kernel
theorem dL_law_147 : decode cL_law 147 = .ok (.iaload, 1) := by decide +kernel
theorem dL_law_148 : decode cL_law 148 = .ok (.aload_n 0, 1) := by decide +kernel
theorem dL_law_149 : decode cL_law 149 = .ok (.iload_n 3, 1) := by decide +kernel
theorem dL_law_150 : decode cL_law 150 = .ok (.iconst 2, 1) := by decide +kernel
theorem dL_law_151 : decode cL_law 151 = .ok (.iadd, 1) := by decide +kernel
theorem dL_law_152 : decode cL_law 152 = .ok (.iaload, 1) := by decide +kernel
theorem dL_law_153 : decode cL_law 153 = .ok (.invokevirtual 25, 3) := by decide +kernel
theorem dL_law_156 : decode cL_law 156 = .ok (.if_icmp .eq 418, 3) := by decide +kernel
theorem dL_law_159 : decode cL_law 159 = .ok (.iconst 0, 1) := by decide +kernel
theorem dL_law_160 : decode cL_law 160 = .ok (.ireturn, 1) := by decide +kernel
theorem dL_law_161 : decode cL_law 161 = .ok (.aload_n 1, 1) := by decide +kernel
theorem dL_law_162 : decode cL_law 162 = .ok (.aload_n 0, 1) := by decide +kernel
theorem dL_law_163 : decode cL_law 163 = .ok (.iload_n 3, 1) := by decide +kernel
theorem dL_law_164 : decode cL_law 164 = .ok (.iconst 1, 1) := by decide +kernel
theorem dL_law_165 : decode cL_law 165 = .ok (.iadd, 1) := by decide +kernel
theorem dL_law_166 : decode cL_law 166 = .ok (.iaload, 1) := by decide +kernel
theorem dL_law_167 : decode cL_law 167 = .ok (.aload_n 0, 1) := by decide +kernel
theorem dL_law_168 : decode cL_law 168 = .ok (.iload_n 3, 1) := by decide +kernel
theorem dL_law_169 : decode cL_law 169 = .ok (.iconst 2, 1) := by decide +kernel
theorem dL_law_170 : decode cL_law 170 = .ok (.iadd, 1) := by decide +kernel
theorem dL_law_171 : decode cL_law 171 = .ok (.iaload, 1) := by decide +kernel
theorem dL_law_172 : decode cL_law 172 = .ok (.aload_n 0, 1) := by decide +kernel
theorem dL_law_173 : decode cL_law 173 = .ok (.iload_n 3, 1) := by decide +kernel
theorem dL_law_174 : decode cL_law 174 = .ok (.iconst 3, 1) := by decide +kernel
theorem dL_law_175 : decode cL_law 175 = .ok (.iadd, 1) := by decide +kernel
theorem dL_law_176 : decode cL_law 176 = .ok (.iaload, 1) := by decide +kernel
theorem dL_law_177 : decode cL_law 177 = .ok (.invokevirtual 26, 3) := by decide +kernel
theorem dL_law_180 : decode cL_law 180 = .ok (.aload_n 2, 1) := by decide +kernel
theorem dL_law_181 : decode cL_law 181 = .ok (.aload_n 0, 1) := by decide +kernel
theorem dL_law_182 : decode cL_law 182 = .ok (.iload_n 3, 1) := by decide +kernel
theorem dL_law_183 : decode cL_law 183 = .ok (.iconst 1, 1) := by decide +kernel
theorem dL_law_184 : decode cL_law 184 = .ok (.iadd, 1) := by decide +kernel
theorem dL_law_185 : decode cL_law 185 = .ok (.iaload, 1) := by decide +kernel
theorem dL_law_186 : decode cL_law 186 = .ok (.aload_n 0, 1) := by decide +kernel
theorem dL_law_187 : decode cL_law 187 = .ok (.iload_n 3, 1) := by decide +kernel
theorem dL_law_188 : decode cL_law 188 = .ok (.iconst 2, 1) := by decide +kernel
theorem dL_law_189 : decode cL_law 189 = .ok (.iadd, 1) := by decide +kernel
theorem dL_law_190 : decode cL_law 190 = .ok (.iaload, 1) := by decide +kernel
theorem dL_law_191 : decode cL_law 191 = .ok (.aload_n 0, 1) := by decide +kernel
theorem dL_law_192 : decode cL_law 192 = .ok (.iload_n 3, 1) := by decide +kernel
theorem dL_law_193 : decode cL_law 193 = .ok (.iconst 3, 1) := by decide +kernel
theorem dL_law_194 : decode cL_law 194 = .ok (.iadd, 1) := by decide +kernel
theorem dL_law_195 : decode cL_law 195 = .ok (.iaload, 1) := by decide +kernel
theorem dL_law_196 : decode cL_law 196 = .ok (.invokevirtual 30, 3) := by decide +kernel
theorem dL_law_199 : decode cL_law 199 = .ok (.if_icmp .eq 375, 3) := by decide +kernel
theorem dL_law_202 : decode cL_law 202 = .ok (.iconst 0, 1) := by decide +kernel
theorem dL_law_203 : decode cL_law 203 = .ok (.ireturn, 1) := by decide +kernel
theorem dL_law_204 : decode cL_law 204 = .ok (.aload_n 1, 1) := by decide +kernel
theorem dL_law_205 : decode cL_law 205 = .ok (.aload_n 0, 1) := by decide +kernel
theorem dL_law_206 : decode cL_law 206 = .ok (.iload_n 3, 1) := by decide +kernel
theorem dL_law_207 : decode cL_law 207 = .ok (.iconst 1, 1) := by decide +kernel
theorem dL_law_208 : decode cL_law 208 = .ok (.iadd, 1) := by decide +kernel
theorem dL_law_209 : decode cL_law 209 = .ok (.iaload, 1) := by decide +kernel
theorem dL_law_210 : decode cL_law 210 = .ok (.aload_n 0, 1) := by decide +kernel
theorem dL_law_211 : decode cL_law 211 = .ok (.iload_n 3, 1) := by decide +kernel
theorem dL_law_212 : decode cL_law 212 = .ok (.iconst 2, 1) := by decide +kernel
theorem dL_law_213 : decode cL_law 213 = .ok (.iadd, 1) := by decide +kernel
theorem dL_law_214 : decode cL_law 214 = .ok (.iaload, 1) := by decide +kernel
theorem dL_law_215 : decode cL_law 215 = .ok (.aload_n 0, 1) := by decide +kernel
theorem dL_law_216 : decode cL_law 216 = .ok (.iload_n 3, 1) := by decide +kernel
theorem dL_law_217 : decode cL_law 217 = .ok (.iconst 3, 1) := by decide +kernel
theorem dL_law_218 : decode cL_law 218 = .ok (.iadd, 1) := by decide +kernel
theorem dL_law_219 : decode cL_law 219 = .ok (.iaload, 1) := by decide +kernel
theorem dL_law_220 : decode cL_law 220 = .ok (.invokevirtual 31, 3) := by decide +kernel
theorem dL_law_223 : decode cL_law 223 = .ok (.aload_n 2, 1) := by decide +kernel
theorem dL_law_224 : decode cL_law 224 = .ok (.aload_n 0, 1) := by decide +kernel
theorem dL_law_225 : decode cL_law 225 = .ok (.iload_n 3, 1) := by decide +kernel
theorem dL_law_226 : decode cL_law 226 = .ok (.iconst 1, 1) := by decide +kernel
theorem dL_law_227 : decode cL_law 227 = .ok (.iadd, 1) := by decide +kernel
theorem dL_law_228 : decode cL_law 228 = .ok (.iaload, 1) := by decide +kernel
theorem dL_law_229 : decode cL_law 229 = .ok (.aload_n 0, 1) := by decide +kernel
theorem dL_law_230 : decode cL_law 230 = .ok (.iload_n 3, 1) := by decide +kernel
theorem dL_law_231 : decode cL_law 231 = .ok (.iconst 2, 1) := by decide +kernel
theorem dL_law_232 : decode cL_law 232 = .ok (.iadd, 1) := by decide +kernel
theorem dL_law_233 : decode cL_law 233 = .ok (.iaload, 1) := by decide +kernel
theorem dL_law_234 : decode cL_law 234 = .ok (.aload_n 0, 1) := by decide +kernel
theorem dL_law_235 : decode cL_law 235 = .ok (.iload_n 3, 1) := by decide +kernel
theorem dL_law_236 : decode cL_law 236 = .ok (.iconst 3, 1) := by decide +kernel
theorem dL_law_237 : decode cL_law 237 = .ok (.iadd, 1) := by decide +kernel
theorem dL_law_238 : decode cL_law 238 = .ok (.iaload, 1) := by decide +kernel
theorem dL_law_239 : decode cL_law 239 = .ok (.invokevirtual 34, 3) := by decide +kernel
theorem dL_law_242 : decode cL_law 242 = .ok (.if_icmp .eq 332, 3) := by decide +kernel
theorem dL_law_245 : decode cL_law 245 = .ok (.iconst 0, 1) := by decide +kernel
theorem dL_law_246 : decode cL_law 246 = .ok (.ireturn, 1) := by decide +kernel
theorem dL_law_247 : decode cL_law 247 = .ok (.aload_n 1, 1) := by decide +kernel
theorem dL_law_248 : decode cL_law 248 = .ok (.aload_n 0, 1) := by decide +kernel
theorem dL_law_249 : decode cL_law 249 = .ok (.iload_n 3, 1) := by decide +kernel
theorem dL_law_250 : decode cL_law 250 = .ok (.iconst 1, 1) := by decide +kernel
theorem dL_law_251 : decode cL_law 251 = .ok (.iadd, 1) := by decide +kernel
theorem dL_law_252 : decode cL_law 252 = .ok (.iaload, 1) := by decide +kernel
theorem dL_law_253 : decode cL_law 253 = .ok (.aload_n 0, 1) := by decide +kernel
theorem dL_law_254 : decode cL_law 254 = .ok (.iload_n 3, 1) := by decide +kernel
theorem dL_law_255 : decode cL_law 255 = .ok (.iconst 2, 1) := by decide +kernel
theorem dL_law_256 : decode cL_law 256 = .ok (.iadd, 1) := by decide +kernel
theorem dL_law_257 : decode cL_law 257 = .ok (.iaload, 1) := by decide +kernel
theorem dL_law_258 : decode cL_law 258 = .ok (.invokevirtual 35, 3) := by decide +kernel
theorem dL_law_261 : decode cL_law 261 = .ok (.aload_n 2, 1) := by decide +kernel
theorem dL_law_262 : decode cL_law 262 = .ok (.aload_n 0, 1) := by decide +kernel
theorem dL_law_263 : decode cL_law 263 = .ok (.iload_n 3, 1) := by decide +kernel
theorem dL_law_264 : decode cL_law 264 = .ok (.iconst 1, 1) := by decide +kernel
theorem dL_law_265 : decode cL_law 265 = .ok (.iadd, 1) := by decide +kernel
theorem dL_law_266 : decode cL_law 266 = .ok (.iaload, 1) := by decide +kernel
theorem dL_law_267 : decode cL_law 267 = .ok (.aload_n 0, 1) := by decide +kernel
theorem dL_law_268 : decode cL_law 268 = .ok (.iload_n 3, 1) := by decide +kernel
theorem dL_law_269 : decode cL_law 269 = .ok (.iconst 2, 1) := by decide +kernel
theorem dL_law_270 : decode cL_law 270 = .ok (.iadd, 1) := by decide +kernel
theorem dL_law_271 : decode cL_law 271 = .ok (.iaload, 1) := by decide +kernel
theorem dL_law_272 : decode cL_law 272 = .ok (.invokevirtual 38, 3) := by decide +kernel
theorem dL_law_275 : decode cL_law 275 = .ok (.if_icmp .eq 299, 3) := by decide +kernel
theorem dL_law_278 : decode cL_law 278 = .ok (.iconst 0, 1) := by decide +kernel
theorem dL_law_279 : decode cL_law 279 = .ok (.ireturn, 1) := by decide +kernel
theorem dL_law_280 : decode cL_law 280 = .ok (.aload_n 1, 1) := by decide +kernel
theorem dL_law_281 : decode cL_law 281 = .ok (.aload_n 0, 1) := by decide +kernel
theorem dL_law_282 : decode cL_law 282 = .ok (.iload_n 3, 1) := by decide +kernel
theorem dL_law_283 : decode cL_law 283 = .ok (.iconst 1, 1) := by decide +kernel
theorem dL_law_284 : decode cL_law 284 = .ok (.iadd, 1) := by decide +kernel
theorem dL_law_285 : decode cL_law 285 = .ok (.iaload, 1) := by decide +kernel
theorem dL_law_286 : decode cL_law 286 = .ok (.aload_n 0, 1) := by decide +kernel
theorem dL_law_287 : decode cL_law 287 = .ok (.iload_n 3, 1) := by decide +kernel
theorem dL_law_288 : decode cL_law 288 = .ok (.iconst 2, 1) := by decide +kernel
theorem dL_law_289 : decode cL_law 289 = .ok (.iadd, 1) := by decide +kernel
theorem dL_law_290 : decode cL_law 290 = .ok (.iaload, 1) := by decide +kernel
theorem dL_law_291 : decode cL_law 291 = .ok (.invokevirtual 39, 3) := by decide +kernel
theorem dL_law_294 : decode cL_law 294 = .ok (.aload_n 2, 1) := by decide +kernel
theorem dL_law_295 : decode cL_law 295 = .ok (.aload_n 0, 1) := by decide +kernel
theorem dL_law_296 : decode cL_law 296 = .ok (.iload_n 3, 1) := by decide +kernel
theorem dL_law_297 : decode cL_law 297 = .ok (.iconst 1, 1) := by decide +kernel
theorem dL_law_298 : decode cL_law 298 = .ok (.iadd, 1) := by decide +kernel
theorem dL_law_299 : decode cL_law 299 = .ok (.iaload, 1) := by decide +kernel
theorem dL_law_300 : decode cL_law 300 = .ok (.aload_n 0, 1) := by decide +kernel
theorem dL_law_301 : decode cL_law 301 = .ok (.iload_n 3, 1) := by decide +kernel
theorem dL_law_302 : decode cL_law 302 = .ok (.iconst 2, 1) := by decide +kernel
theorem dL_law_303 : decode cL_law 303 = .ok (.iadd, 1) := by decide +kernel
theorem dL_law_304 : decode cL_law 304 = .ok (.iaload, 1) := by decide +kernel
theorem dL_law_305 : decode cL_law 305 = .ok (.invokevirtual 42, 3) := by decide +kernel
theorem dL_law_308 : decode cL_law 308 = .ok (.if_icmp .eq 266, 3) := by decide +kernel
theorem dL_law_311 : decode cL_law 311 = .ok (.iconst 0, 1) := by decide +kernel
theorem dL_law_312 : decode cL_law 312 = .ok (.ireturn, 1) := by decide +kernel
theorem dL_law_313 : decode cL_law 313 = .ok (.aload_n 1, 1) := by decide +kernel
theorem dL_law_314 : decode cL_law 314 = .ok (.aload_n 0, 1) := by decide +kernel
theorem dL_law_315 : decode cL_law 315 = .ok (.iload_n 3, 1) := by decide +kernel
theorem dL_law_316 : decode cL_law 316 = .ok (.iconst 1, 1) := by decide +kernel
theorem dL_law_317 : decode cL_law 317 = .ok (.iadd, 1) := by decide +kernel
theorem dL_law_318 : decode cL_law 318 = .ok (.iaload, 1) := by decide +kernel
theorem dL_law_319 : decode cL_law 319 = .ok (.aload_n 0, 1) := by decide +kernel
theorem dL_law_320 : decode cL_law 320 = .ok (.iload_n 3, 1) := by decide +kernel
theorem dL_law_321 : decode cL_law 321 = .ok (.iconst 2, 1) := by decide +kernel
theorem dL_law_322 : decode cL_law 322 = .ok (.iadd, 1) := by decide +kernel
theorem dL_law_323 : decode cL_law 323 = .ok (.iaload, 1) := by decide +kernel
theorem dL_law_324 : decode cL_law 324 = .ok (.aload_n 0, 1) := by decide +kernel
theorem dL_law_325 : decode cL_law 325 = .ok (.iload_n 3, 1) := by decide +kernel
theorem dL_law_326 : decode cL_law 326 = .ok (.iconst 3, 1) := by decide +kernel
theorem dL_law_327 : decode cL_law 327 = .ok (.iadd, 1) := by decide +kernel
theorem dL_law_328 : decode cL_law 328 = .ok (.iaload, 1) := by decide +kernel
theorem dL_law_329 : decode cL_law 329 = .ok (.invokevirtual 43, 3) := by decide +kernel
theorem dL_law_332 : decode cL_law 332 = .ok (.aload_n 2, 1) := by decide +kernel
theorem dL_law_333 : decode cL_law 333 = .ok (.aload_n 0, 1) := by decide +kernel
theorem dL_law_334 : decode cL_law 334 = .ok (.iload_n 3, 1) := by decide +kernel
theorem dL_law_335 : decode cL_law 335 = .ok (.iconst 1, 1) := by decide +kernel
theorem dL_law_336 : decode cL_law 336 = .ok (.iadd, 1) := by decide +kernel
theorem dL_law_337 : decode cL_law 337 = .ok (.iaload, 1) := by decide +kernel
theorem dL_law_338 : decode cL_law 338 = .ok (.aload_n 0, 1) := by decide +kernel
theorem dL_law_339 : decode cL_law 339 = .ok (.iload_n 3, 1) := by decide +kernel
theorem dL_law_340 : decode cL_law 340 = .ok (.iconst 2, 1) := by decide +kernel
theorem dL_law_341 : decode cL_law 341 = .ok (.iadd, 1) := by decide +kernel
theorem dL_law_342 : decode cL_law 342 = .ok (.iaload, 1) := by decide +kernel
theorem dL_law_343 : decode cL_law 343 = .ok (.aload_n 0, 1) := by decide +kernel
theorem dL_law_344 : decode cL_law 344 = .ok (.iload_n 3, 1) := by decide +kernel
theorem dL_law_345 : decode cL_law 345 = .ok (.iconst 3, 1) := by decide +kernel
theorem dL_law_346 : decode cL_law 346 = .ok (.iadd, 1) := by decide +kernel
theorem dL_law_347 : decode cL_law 347 = .ok (.iaload, 1) := by decide +kernel
theorem dL_law_348 : decode cL_law 348 = .ok (.invokevirtual 46, 3) := by decide +kernel
theorem dL_law_351 : decode cL_law 351 = .ok (.if_icmp .eq 223, 3) := by decide +kernel
theorem dL_law_354 : decode cL_law 354 = .ok (.iconst 0, 1) := by decide +kernel
theorem dL_law_355 : decode cL_law 355 = .ok (.ireturn, 1) := by decide +kernel
theorem dL_law_356 : decode cL_law 356 = .ok (.aload_n 1, 1) := by decide +kernel
theorem dL_law_357 : decode cL_law 357 = .ok (.aload_n 0, 1) := by decide +kernel
theorem dL_law_358 : decode cL_law 358 = .ok (.iload_n 3, 1) := by decide +kernel
theorem dL_law_359 : decode cL_law 359 = .ok (.iconst 1, 1) := by decide +kernel
theorem dL_law_360 : decode cL_law 360 = .ok (.iadd, 1) := by decide +kernel
theorem dL_law_361 : decode cL_law 361 = .ok (.iaload, 1) := by decide +kernel
theorem dL_law_362 : decode cL_law 362 = .ok (.aload_n 0, 1) := by decide +kernel
theorem dL_law_363 : decode cL_law 363 = .ok (.iload_n 3, 1) := by decide +kernel
theorem dL_law_364 : decode cL_law 364 = .ok (.iconst 2, 1) := by decide +kernel
theorem dL_law_365 : decode cL_law 365 = .ok (.iadd, 1) := by decide +kernel
theorem dL_law_366 : decode cL_law 366 = .ok (.iaload, 1) := by decide +kernel
theorem dL_law_367 : decode cL_law 367 = .ok (.invokevirtual 47, 3) := by decide +kernel
theorem dL_law_370 : decode cL_law 370 = .ok (.aload_n 2, 1) := by decide +kernel
theorem dL_law_371 : decode cL_law 371 = .ok (.aload_n 0, 1) := by decide +kernel
theorem dL_law_372 : decode cL_law 372 = .ok (.iload_n 3, 1) := by decide +kernel
theorem dL_law_373 : decode cL_law 373 = .ok (.iconst 1, 1) := by decide +kernel
theorem dL_law_374 : decode cL_law 374 = .ok (.iadd, 1) := by decide +kernel
theorem dL_law_375 : decode cL_law 375 = .ok (.iaload, 1) := by decide +kernel
theorem dL_law_376 : decode cL_law 376 = .ok (.aload_n 0, 1) := by decide +kernel
theorem dL_law_377 : decode cL_law 377 = .ok (.iload_n 3, 1) := by decide +kernel
theorem dL_law_378 : decode cL_law 378 = .ok (.iconst 2, 1) := by decide +kernel
theorem dL_law_379 : decode cL_law 379 = .ok (.iadd, 1) := by decide +kernel
theorem dL_law_380 : decode cL_law 380 = .ok (.iaload, 1) := by decide +kernel
theorem dL_law_381 : decode cL_law 381 = .ok (.invokevirtual 50, 3) := by decide +kernel
theorem dL_law_384 : decode cL_law 384 = .ok (.if_icmp .eq 190, 3) := by decide +kernel
theorem dL_law_387 : decode cL_law 387 = .ok (.iconst 0, 1) := by decide +kernel
theorem dL_law_388 : decode cL_law 388 = .ok (.ireturn, 1) := by decide +kernel
theorem dL_law_389 : decode cL_law 389 = .ok (.aload_n 1, 1) := by decide +kernel
theorem dL_law_390 : decode cL_law 390 = .ok (.aload_n 0, 1) := by decide +kernel
theorem dL_law_391 : decode cL_law 391 = .ok (.iload_n 3, 1) := by decide +kernel
theorem dL_law_392 : decode cL_law 392 = .ok (.iconst 1, 1) := by decide +kernel
theorem dL_law_393 : decode cL_law 393 = .ok (.iadd, 1) := by decide +kernel
theorem dL_law_394 : decode cL_law 394 = .ok (.iaload, 1) := by decide +kernel
theorem dL_law_395 : decode cL_law 395 = .ok (.invokevirtual 51, 3) := by decide +kernel
theorem dL_law_398 : decode cL_law 398 = .ok (.aload_n 2, 1) := by decide +kernel
theorem dL_law_399 : decode cL_law 399 = .ok (.aload_n 0, 1) := by decide +kernel
theorem dL_law_400 : decode cL_law 400 = .ok (.iload_n 3, 1) := by decide +kernel
theorem dL_law_401 : decode cL_law 401 = .ok (.iconst 1, 1) := by decide +kernel
theorem dL_law_402 : decode cL_law 402 = .ok (.iadd, 1) := by decide +kernel
theorem dL_law_403 : decode cL_law 403 = .ok (.iaload, 1) := by decide +kernel
theorem dL_law_404 : decode cL_law 404 = .ok (.invokevirtual 55, 3) := by decide +kernel
theorem dL_law_407 : decode cL_law 407 = .ok (.if_icmp .eq 167, 3) := by decide +kernel
theorem dL_law_410 : decode cL_law 410 = .ok (.iconst 0, 1) := by decide +kernel
theorem dL_law_411 : decode cL_law 411 = .ok (.ireturn, 1) := by decide +kernel
theorem dL_law_412 : decode cL_law 412 = .ok (.aload_n 1, 1) := by decide +kernel
theorem dL_law_413 : decode cL_law 413 = .ok (.invokevirtual 56, 3) := by decide +kernel
theorem dL_law_416 : decode cL_law 416 = .ok (.aload_n 2, 1) := by decide +kernel
theorem dL_law_417 : decode cL_law 417 = .ok (.invokevirtual 60, 3) := by decide +kernel
theorem dL_law_420 : decode cL_law 420 = .ok (.if_icmp .eq 154, 3) := by decide +kernel
theorem dL_law_423 : decode cL_law 423 = .ok (.iconst 0, 1) := by decide +kernel
theorem dL_law_424 : decode cL_law 424 = .ok (.ireturn, 1) := by decide +kernel
theorem dL_law_425 : decode cL_law 425 = .ok (.aload_n 1, 1) := by decide +kernel
theorem dL_law_426 : decode cL_law 426 = .ok (.invokevirtual 61, 3) := by decide +kernel
theorem dL_law_429 : decode cL_law 429 = .ok (.aload_n 2, 1) := by decide +kernel
theorem dL_law_430 : decode cL_law 430 = .ok (.invokevirtual 64, 3) := by decide +kernel
theorem dL_law_433 : decode cL_law 433 = .ok (.if_icmp .eq 141, 3) := by decide +kernel
theorem dL_law_436 : decode cL_law 436 = .ok (.iconst 0, 1) := by decide +kernel
theorem dL_law_437 : decode cL_law 437 = .ok (.ireturn, 1) := by decide +kernel
theorem dL_law_438 : decode cL_law 438 = .ok (.aload_n 1, 1) := by decide +kernel
theorem dL_law_439 : decode cL_law 439 = .ok (.aload_n 0, 1) := by decide +kernel
theorem dL_law_440 : decode cL_law 440 = .ok (.iload_n 3, 1) := by decide +kernel
theorem dL_law_441 : decode cL_law 441 = .ok (.iconst 1, 1) := by decide +kernel
theorem dL_law_442 : decode cL_law 442 = .ok (.iadd, 1) := by decide +kernel
theorem dL_law_443 : decode cL_law 443 = .ok (.iaload, 1) := by decide +kernel
theorem dL_law_444 : decode cL_law 444 = .ok (.aload_n 0, 1) := by decide +kernel
theorem dL_law_445 : decode cL_law 445 = .ok (.iload_n 3, 1) := by decide +kernel
theorem dL_law_446 : decode cL_law 446 = .ok (.iconst 2, 1) := by decide +kernel
theorem dL_law_447 : decode cL_law 447 = .ok (.iadd, 1) := by decide +kernel
theorem dL_law_448 : decode cL_law 448 = .ok (.iaload, 1) := by decide +kernel
theorem dL_law_449 : decode cL_law 449 = .ok (.invokevirtual 65, 3) := by decide +kernel
theorem dL_law_452 : decode cL_law 452 = .ok (.aload_n 2, 1) := by decide +kernel
theorem dL_law_453 : decode cL_law 453 = .ok (.aload_n 0, 1) := by decide +kernel
theorem dL_law_454 : decode cL_law 454 = .ok (.iload_n 3, 1) := by decide +kernel
theorem dL_law_455 : decode cL_law 455 = .ok (.iconst 1, 1) := by decide +kernel
theorem dL_law_456 : decode cL_law 456 = .ok (.iadd, 1) := by decide +kernel
theorem dL_law_457 : decode cL_law 457 = .ok (.iaload, 1) := by decide +kernel
theorem dL_law_458 : decode cL_law 458 = .ok (.aload_n 0, 1) := by decide +kernel
theorem dL_law_459 : decode cL_law 459 = .ok (.iload_n 3, 1) := by decide +kernel
theorem dL_law_460 : decode cL_law 460 = .ok (.iconst 2, 1) := by decide +kernel
theorem dL_law_461 : decode cL_law 461 = .ok (.iadd, 1) := by decide +kernel
theorem dL_law_462 : decode cL_law 462 = .ok (.iaload, 1) := by decide +kernel
theorem dL_law_463 : decode cL_law 463 = .ok (.invokevirtual 68, 3) := by decide +kernel
theorem dL_law_466 : decode cL_law 466 = .ok (.if_icmp .eq 108, 3) := by decide +kernel
theorem dL_law_469 : decode cL_law 469 = .ok (.iconst 0, 1) := by decide +kernel
theorem dL_law_470 : decode cL_law 470 = .ok (.ireturn, 1) := by decide +kernel
theorem dL_law_471 : decode cL_law 471 = .ok (.aload_n 1, 1) := by decide +kernel
theorem dL_law_472 : decode cL_law 472 = .ok (.aload_n 0, 1) := by decide +kernel
theorem dL_law_473 : decode cL_law 473 = .ok (.iload_n 3, 1) := by decide +kernel
theorem dL_law_474 : decode cL_law 474 = .ok (.iconst 1, 1) := by decide +kernel
theorem dL_law_475 : decode cL_law 475 = .ok (.iadd, 1) := by decide +kernel
theorem dL_law_476 : decode cL_law 476 = .ok (.iaload, 1) := by decide +kernel
theorem dL_law_477 : decode cL_law 477 = .ok (.invokevirtual 69, 3) := by decide +kernel
theorem dL_law_480 : decode cL_law 480 = .ok (.aload_n 2, 1) := by decide +kernel
theorem dL_law_481 : decode cL_law 481 = .ok (.aload_n 0, 1) := by decide +kernel
theorem dL_law_482 : decode cL_law 482 = .ok (.iload_n 3, 1) := by decide +kernel
theorem dL_law_483 : decode cL_law 483 = .ok (.iconst 1, 1) := by decide +kernel
theorem dL_law_484 : decode cL_law 484 = .ok (.iadd, 1) := by decide +kernel
theorem dL_law_485 : decode cL_law 485 = .ok (.iaload, 1) := by decide +kernel
theorem dL_law_486 : decode cL_law 486 = .ok (.invokevirtual 72, 3) := by decide +kernel
theorem dL_law_489 : decode cL_law 489 = .ok (.if_icmp .eq 85, 3) := by decide +kernel
theorem dL_law_492 : decode cL_law 492 = .ok (.iconst 0, 1) := by decide +kernel
theorem dL_law_493 : decode cL_law 493 = .ok (.ireturn, 1) := by decide +kernel
theorem dL_law_494 : decode cL_law 494 = .ok (.aload_n 1, 1) := by decide +kernel
theorem dL_law_495 : decode cL_law 495 = .ok (.aload_n 0, 1) := by decide +kernel
theorem dL_law_496 : decode cL_law 496 = .ok (.iload_n 3, 1) := by decide +kernel
theorem dL_law_497 : decode cL_law 497 = .ok (.iconst 1, 1) := by decide +kernel
theorem dL_law_498 : decode cL_law 498 = .ok (.iadd, 1) := by decide +kernel
theorem dL_law_499 : decode cL_law 499 = .ok (.iaload, 1) := by decide +kernel
theorem dL_law_500 : decode cL_law 500 = .ok (.invokevirtual 73, 3) := by decide +kernel
theorem dL_law_503 : decode cL_law 503 = .ok (.aload_n 2, 1) := by decide +kernel
theorem dL_law_504 : decode cL_law 504 = .ok (.aload_n 0, 1) := by decide +kernel
theorem dL_law_505 : decode cL_law 505 = .ok (.iload_n 3, 1) := by decide +kernel
theorem dL_law_506 : decode cL_law 506 = .ok (.iconst 1, 1) := by decide +kernel
theorem dL_law_507 : decode cL_law 507 = .ok (.iadd, 1) := by decide +kernel
theorem dL_law_508 : decode cL_law 508 = .ok (.iaload, 1) := by decide +kernel
theorem dL_law_509 : decode cL_law 509 = .ok (.invokevirtual 76, 3) := by decide +kernel
theorem dL_law_512 : decode cL_law 512 = .ok (.if_icmp .eq 62, 3) := by decide +kernel
theorem dL_law_515 : decode cL_law 515 = .ok (.iconst 0, 1) := by decide +kernel
theorem dL_law_516 : decode cL_law 516 = .ok (.ireturn, 1) := by decide +kernel
theorem dL_law_517 : decode cL_law 517 = .ok (.aload_n 1, 1) := by decide +kernel
theorem dL_law_518 : decode cL_law 518 = .ok (.aload_n 0, 1) := by decide +kernel
theorem dL_law_519 : decode cL_law 519 = .ok (.iload_n 3, 1) := by decide +kernel
theorem dL_law_520 : decode cL_law 520 = .ok (.iconst 1, 1) := by decide +kernel
theorem dL_law_521 : decode cL_law 521 = .ok (.iadd, 1) := by decide +kernel
theorem dL_law_522 : decode cL_law 522 = .ok (.iaload, 1) := by decide +kernel
theorem dL_law_523 : decode cL_law 523 = .ok (.aload_n 0, 1) := by decide +kernel
theorem dL_law_524 : decode cL_law 524 = .ok (.iload_n 3, 1) := by decide +kernel
theorem dL_law_525 : decode cL_law 525 = .ok (.iconst 2, 1) := by decide +kernel
theorem dL_law_526 : decode cL_law 526 = .ok (.iadd, 1) := by decide +kernel
theorem dL_law_527 : decode cL_law 527 = .ok (.iaload, 1) := by decide +kernel
theorem dL_law_528 : decode cL_law 528 = .ok (.invokevirtual 77, 3) := by decide +kernel
theorem dL_law_531 : decode cL_law 531 = .ok (.aload_n 2, 1) := by decide +kernel
theorem dL_law_532 : decode cL_law 532 = .ok (.aload_n 0, 1) := by decide +kernel
theorem dL_law_533 : decode cL_law 533 = .ok (.iload_n 3, 1) := by decide +kernel
theorem dL_law_534 : decode cL_law 534 = .ok (.iconst 1, 1) := by decide +kernel
theorem dL_law_535 : decode cL_law 535 = .ok (.iadd, 1) := by decide +kernel
theorem dL_law_536 : decode cL_law 536 = .ok (.iaload, 1) := by decide +kernel
theorem dL_law_537 : decode cL_law 537 = .ok (.aload_n 0, 1) := by decide +kernel
theorem dL_law_538 : decode cL_law 538 = .ok (.iload_n 3, 1) := by decide +kernel
theorem dL_law_539 : decode cL_law 539 = .ok (.iconst 2, 1) := by decide +kernel
theorem dL_law_540 : decode cL_law 540 = .ok (.iadd, 1) := by decide +kernel
theorem dL_law_541 : decode cL_law 541 = .ok (.iaload, 1) := by decide +kernel
theorem dL_law_542 : decode cL_law 542 = .ok (.invokevirtual 80, 3) := by decide +kernel
theorem dL_law_545 : decode cL_law 545 = .ok (.if_icmp .eq 29, 3) := by decide +kernel
theorem dL_law_548 : decode cL_law 548 = .ok (.iconst 0, 1) := by decide +kernel
theorem dL_law_549 : decode cL_law 549 = .ok (.ireturn, 1) := by decide +kernel
theorem dL_law_550 : decode cL_law 550 = .ok (.aload_n 1, 1) := by decide +kernel
theorem dL_law_551 : decode cL_law 551 = .ok (.aload_n 0, 1) := by decide +kernel
theorem dL_law_552 : decode cL_law 552 = .ok (.iload_n 3, 1) := by decide +kernel
theorem dL_law_553 : decode cL_law 553 = .ok (.iconst 1, 1) := by decide +kernel
theorem dL_law_554 : decode cL_law 554 = .ok (.iadd, 1) := by decide +kernel
theorem dL_law_555 : decode cL_law 555 = .ok (.iaload, 1) := by decide +kernel
theorem dL_law_556 : decode cL_law 556 = .ok (.invokevirtual 81, 3) := by decide +kernel
theorem dL_law_559 : decode cL_law 559 = .ok (.aload_n 2, 1) := by decide +kernel
theorem dL_law_560 : decode cL_law 560 = .ok (.aload_n 0, 1) := by decide +kernel
theorem dL_law_561 : decode cL_law 561 = .ok (.iload_n 3, 1) := by decide +kernel
theorem dL_law_562 : decode cL_law 562 = .ok (.iconst 1, 1) := by decide +kernel
theorem dL_law_563 : decode cL_law 563 = .ok (.iadd, 1) := by decide +kernel
theorem dL_law_564 : decode cL_law 564 = .ok (.iaload, 1) := by decide +kernel
theorem dL_law_565 : decode cL_law 565 = .ok (.invokevirtual 85, 3) := by decide +kernel
theorem dL_law_568 : decode cL_law 568 = .ok (.lcmp, 1) := by decide +kernel
theorem dL_law_569 : decode cL_law 569 = .ok (.ifCond .eq 5, 3) := by decide +kernel
theorem dL_law_572 : decode cL_law 572 = .ok (.iconst 0, 1) := by decide +kernel
theorem dL_law_573 : decode cL_law 573 = .ok (.ireturn, 1) := by decide +kernel
theorem dL_law_574 : decode cL_law 574 = .ok (.iinc 3 4, 3) := by decide +kernel
theorem dL_law_577 : decode cL_law 577 = .ok (.goto (-539), 3) := by decide +kernel
theorem dL_law_580 : decode cL_law 580 = .ok (.iconst 1, 1) := by decide +kernel
theorem dL_law_581 : decode cL_law 581 = .ok (.ireturn, 1) := by decide +kernel
