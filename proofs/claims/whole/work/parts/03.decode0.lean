theorem dX0_init_0 : decode cX0_init 0 = .ok (.aload_n 0, 1) := by decide +kernel
theorem dX0_init_1 : decode cX0_init 1 = .ok (.aload_n 1, 1) := by decide +kernel
theorem dX0_init_2 : decode cX0_init 2 = .ok (.aload_n 2, 1) := by decide +kernel
theorem dX0_init_3 : decode cX0_init 3 = .ok (.invokespecial 3, 3) := by decide +kernel
theorem dX0_init_6 : decode cX0_init 6 = .ok (.aload_n 0, 1) := by decide +kernel
theorem dX0_init_7 : decode cX0_init 7 = .ok (.aload_n 1, 1) := by decide +kernel
theorem dX0_init_8 : decode cX0_init 8 = .ok (.invokevirtual 9, 3) := by decide +kernel
theorem dX0_init_11 : decode cX0_init 11 = .ok (.iconst 4, 1) := by decide +kernel
theorem dX0_init_12 : decode cX0_init 12 = .ok (.idiv, 1) := by decide +kernel
theorem dX0_init_13 : decode cX0_init 13 = .ok (.putfield 15, 3) := by decide +kernel
theorem dX0_init_16 : decode cX0_init 16 = .ok (.aload_n 0, 1) := by decide +kernel
theorem dX0_init_17 : decode cX0_init 17 = .ok (.new 21, 3) := by decide +kernel
theorem dX0_init_20 : decode cX0_init 20 = .ok (.dup, 1) := by decide +kernel
theorem dX0_init_21 : decode cX0_init 21 = .ok (.iconst 0, 1) := by decide +kernel
theorem dX0_init_22 : decode cX0_init 22 = .ok (.aload_n 0, 1) := by decide +kernel
theorem dX0_init_23 : decode cX0_init 23 = .ok (.getfield 15, 3) := by decide +kernel
theorem dX0_init_26 : decode cX0_init 26 = .ok (.invokespecial 23, 3) := by decide +kernel
theorem dX0_init_29 : decode cX0_init 29 = .ok (.putfield 26, 3) := by decide +kernel
theorem dX0_init_32 : decode cX0_init 32 = .ok (.return_, 1) := by decide +kernel
theorem dX0_take_0 : decode cX0_take 0 = .ok (.aload_n 0, 1) := by decide +kernel
theorem dX0_take_1 : decode cX0_take 1 = .ok (.getfield 26, 3) := by decide +kernel
theorem dX0_take_4 : decode cX0_take 4 = .ok (.iload_n 1, 1) := by decide +kernel
theorem dX0_take_5 : decode cX0_take 5 = .ok (.invokevirtual 30, 3) := by decide +kernel
theorem dX0_take_8 : decode cX0_take 8 = .ok (.ireturn, 1) := by decide +kernel
theorem dX0_clearRoomFor_0 : decode cX0_clearRoomFor 0 = .ok (.iload_n 1, 1) := by decide +kernel
theorem dX0_clearRoomFor_1 : decode cX0_clearRoomFor 1 = .ok (.aload_n 0, 1) := by decide +kernel
theorem dX0_clearRoomFor_2 : decode cX0_clearRoomFor 2 = .ok (.getfield 15, 3) := by decide +kernel
theorem dX0_clearRoomFor_5 : decode cX0_clearRoomFor 5 = .ok (.if_icmp .gt 17, 3) := by decide +kernel
theorem dX0_clearRoomFor_8 : decode cX0_clearRoomFor 8 = .ok (.aload_n 0, 1) := by decide +kernel
theorem dX0_clearRoomFor_9 : decode cX0_clearRoomFor 9 = .ok (.invokevirtual 34, 3) := by decide +kernel
theorem dX0_clearRoomFor_12 : decode cX0_clearRoomFor 12 = .ok (.bipush (-4), 2) := by decide +kernel
theorem dX0_clearRoomFor_14 : decode cX0_clearRoomFor 14 = .ok (.if_icmp .ne 8, 3) := by decide +kernel
theorem dX0_clearRoomFor_17 : decode cX0_clearRoomFor 17 = .ok (.aload_n 0, 1) := by decide +kernel
theorem dX0_clearRoomFor_18 : decode cX0_clearRoomFor 18 = .ok (.invokevirtual 37, 3) := by decide +kernel
theorem dX0_clearRoomFor_21 : decode cX0_clearRoomFor 21 = .ok (.pop, 1) := by decide +kernel
theorem dX0_clearRoomFor_22 : decode cX0_clearRoomFor 22 = .ok (.return_, 1) := by decide +kernel
theorem dX0_isOld_0 : decode cX0_isOld 0 = .ok (.aload_n 1, 1) := by decide +kernel
theorem dX0_isOld_1 : decode cX0_isOld 1 = .ok (.getfield 40, 3) := by decide +kernel
theorem dX0_isOld_4 : decode cX0_isOld 4 = .ok (.aload_n 0, 1) := by decide +kernel
theorem dX0_isOld_5 : decode cX0_isOld 5 = .ok (.getfield 15, 3) := by decide +kernel
theorem dX0_isOld_8 : decode cX0_isOld 8 = .ok (.if_icmp .lt 7, 3) := by decide +kernel
theorem dX0_isOld_11 : decode cX0_isOld 11 = .ok (.iconst 1, 1) := by decide +kernel
theorem dX0_isOld_12 : decode cX0_isOld 12 = .ok (.goto 4, 3) := by decide +kernel
theorem dX0_isOld_15 : decode cX0_isOld 15 = .ok (.iconst 0, 1) := by decide +kernel
theorem dX0_isOld_16 : decode cX0_isOld 16 = .ok (.ireturn, 1) := by decide +kernel
theorem dX0_gather_0 : decode cX0_gather 0 = .ok (.aload_n 0, 1) := by decide +kernel
theorem dX0_gather_1 : decode cX0_gather 1 = .ok (.dup, 1) := by decide +kernel
theorem dX0_gather_2 : decode cX0_gather 2 = .ok (.getfield 45, 3) := by decide +kernel
theorem dX0_gather_5 : decode cX0_gather 5 = .ok (.iconst 1, 1) := by decide +kernel
theorem dX0_gather_6 : decode cX0_gather 6 = .ok (.iadd, 1) := by decide +kernel
theorem dX0_gather_7 : decode cX0_gather 7 = .ok (.putfield 45, 3) := by decide +kernel
theorem dX0_gather_10 : decode cX0_gather 10 = .ok (.aload_n 0, 1) := by decide +kernel
theorem dX0_gather_11 : decode cX0_gather 11 = .ok (.invokevirtual 48, 3) := by decide +kernel
theorem dX0_gather_14 : decode cX0_gather 14 = .ok (.aload_n 0, 1) := by decide +kernel
theorem dX0_gather_15 : decode cX0_gather 15 = .ok (.aload_n 0, 1) := by decide +kernel
theorem dX0_gather_16 : decode cX0_gather 16 = .ok (.getfield 15, 3) := by decide +kernel
theorem dX0_gather_19 : decode cX0_gather 19 = .ok (.invokevirtual 52, 3) := by decide +kernel
theorem dX0_gather_22 : decode cX0_gather 22 = .ok (.istore_n 1, 1) := by decide +kernel
theorem dX0_gather_23 : decode cX0_gather 23 = .ok (.aload_n 0, 1) := by decide +kernel
theorem dX0_gather_24 : decode cX0_gather 24 = .ok (.invokevirtual 34, 3) := by decide +kernel
theorem dX0_gather_27 : decode cX0_gather 27 = .ok (.istore_n 2, 1) := by decide +kernel
theorem dX0_gather_28 : decode cX0_gather 28 = .ok (.iload_n 2, 1) := by decide +kernel
theorem dX0_gather_29 : decode cX0_gather 29 = .ok (.bipush (-4), 2) := by decide +kernel
theorem dX0_gather_31 : decode cX0_gather 31 = .ok (.if_icmp .ne 8, 3) := by decide +kernel
theorem dX0_gather_34 : decode cX0_gather 34 = .ok (.bipush (-4), 2) := by decide +kernel
theorem dX0_gather_36 : decode cX0_gather 36 = .ok (.goto 6, 3) := by decide +kernel
theorem dX0_gather_39 : decode cX0_gather 39 = .ok (.iload_n 1, 1) := by decide +kernel
theorem dX0_gather_40 : decode cX0_gather 40 = .ok (.iload_n 2, 1) := by decide +kernel
theorem dX0_gather_41 : decode cX0_gather 41 = .ok (.iadd, 1) := by decide +kernel
theorem dX0_gather_42 : decode cX0_gather 42 = .ok (.ireturn, 1) := by decide +kernel
theorem dX0_gatherYoung_0 : decode cX0_gatherYoung 0 = .ok (.aload_n 0, 1) := by decide +kernel
theorem dX0_gatherYoung_1 : decode cX0_gatherYoung 1 = .ok (.getfield 55, 3) := by decide +kernel
theorem dX0_gatherYoung_4 : decode cX0_gatherYoung 4 = .ok (.aload_n 0, 1) := by decide +kernel
theorem dX0_gatherYoung_5 : decode cX0_gatherYoung 5 = .ok (.getfield 15, 3) := by decide +kernel
theorem dX0_gatherYoung_8 : decode cX0_gatherYoung 8 = .ok (.invokevirtual 59, 3) := by decide +kernel
theorem dX0_gatherYoung_11 : decode cX0_gatherYoung 11 = .ok (.aload_n 0, 1) := by decide +kernel
theorem dX0_gatherYoung_12 : decode cX0_gatherYoung 12 = .ok (.getfield 55, 3) := by decide +kernel
theorem dX0_gatherYoung_15 : decode cX0_gatherYoung 15 = .ok (.aload_n 0, 1) := by decide +kernel
theorem dX0_gatherYoung_16 : decode cX0_gatherYoung 16 = .ok (.getfield 65, 3) := by decide +kernel
theorem dX0_gatherYoung_19 : decode cX0_gatherYoung 19 = .ok (.invokevirtual 69, 3) := by decide +kernel
theorem dX0_gatherYoung_22 : decode cX0_gatherYoung 22 = .ok (.aload_n 0, 1) := by decide +kernel
theorem dX0_gatherYoung_23 : decode cX0_gatherYoung 23 = .ok (.invokevirtual 73, 3) := by decide +kernel
theorem dX0_gatherYoung_26 : decode cX0_gatherYoung 26 = .ok (.aload_n 0, 1) := by decide +kernel
theorem dX0_gatherYoung_27 : decode cX0_gatherYoung 27 = .ok (.getfield 55, 3) := by decide +kernel
theorem dX0_gatherYoung_30 : decode cX0_gatherYoung 30 = .ok (.invokevirtual 76, 3) := by decide +kernel
theorem dX0_gatherYoung_33 : decode cX0_gatherYoung 33 = .ok (.aload_n 0, 1) := by decide +kernel
theorem dX0_gatherYoung_34 : decode cX0_gatherYoung 34 = .ok (.invokevirtual 79, 3) := by decide +kernel
theorem dX0_gatherYoung_37 : decode cX0_gatherYoung 37 = .ok (.istore_n 1, 1) := by decide +kernel
theorem dX0_gatherYoung_38 : decode cX0_gatherYoung 38 = .ok (.iload_n 1, 1) := by decide +kernel
theorem dX0_gatherYoung_39 : decode cX0_gatherYoung 39 = .ok (.aload_n 0, 1) := by decide +kernel
theorem dX0_gatherYoung_40 : decode cX0_gatherYoung 40 = .ok (.getfield 55, 3) := by decide +kernel
theorem dX0_gatherYoung_43 : decode cX0_gatherYoung 43 = .ok (.invokevirtual 82, 3) := by decide +kernel
theorem dX0_gatherYoung_46 : decode cX0_gatherYoung 46 = .ok (.if_icmp .ge 11, 3) := by decide +kernel
theorem dX0_gatherYoung_49 : decode cX0_gatherYoung 49 = .ok (.aload_n 0, 1) := by decide +kernel
theorem dX0_gatherYoung_50 : decode cX0_gatherYoung 50 = .ok (.iload_n 1, 1) := by decide +kernel
theorem dX0_gatherYoung_51 : decode cX0_gatherYoung 51 = .ok (.invokevirtual 85, 3) := by decide +kernel
theorem dX0_gatherYoung_54 : decode cX0_gatherYoung 54 = .ok (.bipush (-4), 2) := by decide +kernel
theorem dX0_gatherYoung_56 : decode cX0_gatherYoung 56 = .ok (.ireturn, 1) := by decide +kernel
theorem dX0_gatherYoung_57 : decode cX0_gatherYoung 57 = .ok (.aload_n 0, 1) := by decide +kernel
theorem dX0_gatherYoung_58 : decode cX0_gatherYoung 58 = .ok (.getfield 88, 3) := by decide +kernel
theorem dX0_gatherYoung_61 : decode cX0_gatherYoung 61 = .ok (.aload_n 0, 1) := by decide +kernel
theorem dX0_gatherYoung_62 : decode cX0_gatherYoung 62 = .ok (.getfield 15, 3) := by decide +kernel
theorem dX0_gatherYoung_65 : decode cX0_gatherYoung 65 = .ok (.invokevirtual 92, 3) := by decide +kernel
theorem dX0_gatherYoung_68 : decode cX0_gatherYoung 68 = .ok (.istore_n 2, 1) := by decide +kernel
theorem dX0_gatherYoung_69 : decode cX0_gatherYoung 69 = .ok (.aload_n 0, 1) := by decide +kernel
theorem dX0_gatherYoung_70 : decode cX0_gatherYoung 70 = .ok (.getfield 88, 3) := by decide +kernel
theorem dX0_gatherYoung_73 : decode cX0_gatherYoung 73 = .ok (.iconst 0, 1) := by decide +kernel
theorem dX0_gatherYoung_74 : decode cX0_gatherYoung 74 = .ok (.aload_n 0, 1) := by decide +kernel
theorem dX0_gatherYoung_75 : decode cX0_gatherYoung 75 = .ok (.getfield 15, 3) := by decide +kernel
theorem dX0_gatherYoung_78 : decode cX0_gatherYoung 78 = .ok (.aconst_null, 1) := by decide +kernel
theorem dX0_gatherYoung_79 : decode cX0_gatherYoung 79 = .ok (.invokevirtual 95, 3) := by decide +kernel
theorem dX0_gatherYoung_82 : decode cX0_gatherYoung 82 = .ok (.aload_n 0, 1) := by decide +kernel
theorem dX0_gatherYoung_83 : decode cX0_gatherYoung 83 = .ok (.invokevirtual 99, 3) := by decide +kernel
theorem dX0_gatherYoung_86 : decode cX0_gatherYoung 86 = .ok (.aload_n 0, 1) := by decide +kernel
theorem dX0_gatherYoung_87 : decode cX0_gatherYoung 87 = .ok (.invokevirtual 102, 3) := by decide +kernel
theorem dX0_gatherYoung_90 : decode cX0_gatherYoung 90 = .ok (.aload_n 0, 1) := by decide +kernel
theorem dX0_gatherYoung_91 : decode cX0_gatherYoung 91 = .ok (.getfield 26, 3) := by decide +kernel
theorem dX0_gatherYoung_94 : decode cX0_gatherYoung 94 = .ok (.iconst 0, 1) := by decide +kernel
theorem dX0_gatherYoung_95 : decode cX0_gatherYoung 95 = .ok (.aload_n 0, 1) := by decide +kernel
theorem dX0_gatherYoung_96 : decode cX0_gatherYoung 96 = .ok (.getfield 15, 3) := by decide +kernel
theorem dX0_gatherYoung_99 : decode cX0_gatherYoung 99 = .ok (.invokevirtual 105, 3) := by decide +kernel
theorem dX0_gatherYoung_102 : decode cX0_gatherYoung 102 = .ok (.aload_n 0, 1) := by decide +kernel
theorem dX0_gatherYoung_103 : decode cX0_gatherYoung 103 = .ok (.dup, 1) := by decide +kernel
theorem dX0_gatherYoung_104 : decode cX0_gatherYoung 104 = .ok (.getfield 108, 3) := by decide +kernel
theorem dX0_gatherYoung_107 : decode cX0_gatherYoung 107 = .ok (.iconst 1, 1) := by decide +kernel
theorem dX0_gatherYoung_108 : decode cX0_gatherYoung 108 = .ok (.iadd, 1) := by decide +kernel
theorem dX0_gatherYoung_109 : decode cX0_gatherYoung 109 = .ok (.putfield 108, 3) := by decide +kernel
theorem dX0_gatherYoung_112 : decode cX0_gatherYoung 112 = .ok (.iload_n 2, 1) := by decide +kernel
theorem dX0_gatherYoung_113 : decode cX0_gatherYoung 113 = .ok (.iload_n 1, 1) := by decide +kernel
theorem dX0_gatherYoung_114 : decode cX0_gatherYoung 114 = .ok (.isub, 1) := by decide +kernel
theorem dX0_gatherYoung_115 : decode cX0_gatherYoung 115 = .ok (.ireturn, 1) := by decide +kernel
theorem dX0_meetByRemembered_0 : decode cX0_meetByRemembered 0 = .ok (.aload_n 0, 1) := by decide +kernel
theorem dX0_meetByRemembered_1 : decode cX0_meetByRemembered 1 = .ok (.getfield 15, 3) := by decide +kernel
theorem dX0_meetByRemembered_4 : decode cX0_meetByRemembered 4 = .ok (.istore_n 1, 1) := by decide +kernel
theorem dX0_meetByRemembered_5 : decode cX0_meetByRemembered 5 = .ok (.iload_n 1, 1) := by decide +kernel
theorem dX0_meetByRemembered_6 : decode cX0_meetByRemembered 6 = .ok (.aload_n 0, 1) := by decide +kernel
theorem dX0_meetByRemembered_7 : decode cX0_meetByRemembered 7 = .ok (.getfield 88, 3) := by decide +kernel
theorem dX0_meetByRemembered_10 : decode cX0_meetByRemembered 10 = .ok (.invokevirtual 9, 3) := by decide +kernel
theorem dX0_meetByRemembered_13 : decode cX0_meetByRemembered 13 = .ok (.if_icmp .ge 37, 3) := by decide +kernel
theorem dX0_meetByRemembered_16 : decode cX0_meetByRemembered 16 = .ok (.aload_n 0, 1) := by decide +kernel
theorem dX0_meetByRemembered_17 : decode cX0_meetByRemembered 17 = .ok (.getfield 88, 3) := by decide +kernel
theorem dX0_meetByRemembered_20 : decode cX0_meetByRemembered 20 = .ok (.iload_n 1, 1) := by decide +kernel
theorem dX0_meetByRemembered_21 : decode cX0_meetByRemembered 21 = .ok (.invokevirtual 111, 3) := by decide +kernel
theorem dX0_meetByRemembered_24 : decode cX0_meetByRemembered 24 = .ok (.astore_n 2, 1) := by decide +kernel
theorem dX0_meetByRemembered_25 : decode cX0_meetByRemembered 25 = .ok (.aload_n 2, 1) := by decide +kernel
theorem dX0_meetByRemembered_26 : decode cX0_meetByRemembered 26 = .ok (.ifnull 18, 3) := by decide +kernel
theorem dX0_meetByRemembered_29 : decode cX0_meetByRemembered 29 = .ok (.aload_n 2, 1) := by decide +kernel
theorem dX0_meetByRemembered_30 : decode cX0_meetByRemembered 30 = .ok (.getfield 115, 3) := by decide +kernel
theorem dX0_meetByRemembered_33 : decode cX0_meetByRemembered 33 = .ok (.ifCond .eq 11, 3) := by decide +kernel
theorem dX0_meetByRemembered_36 : decode cX0_meetByRemembered 36 = .ok (.aload_n 0, 1) := by decide +kernel
theorem dX0_meetByRemembered_37 : decode cX0_meetByRemembered 37 = .ok (.getfield 55, 3) := by decide +kernel
theorem dX0_meetByRemembered_40 : decode cX0_meetByRemembered 40 = .ok (.aload_n 2, 1) := by decide +kernel
theorem dX0_meetByRemembered_41 : decode cX0_meetByRemembered 41 = .ok (.invokevirtual 119, 3) := by decide +kernel
theorem dX0_meetByRemembered_44 : decode cX0_meetByRemembered 44 = .ok (.iinc 1 1, 3) := by decide +kernel
theorem dX0_meetByRemembered_47 : decode cX0_meetByRemembered 47 = .ok (.goto (-42), 3) := by decide +kernel
theorem dX0_meetByRemembered_50 : decode cX0_meetByRemembered 50 = .ok (.return_, 1) := by decide +kernel
theorem dX0_reserve_0 : decode cX0_reserve 0 = .ok (.iconst 0, 1) := by decide +kernel
theorem dX0_reserve_1 : decode cX0_reserve 1 = .ok (.istore_n 1, 1) := by decide +kernel
theorem dX0_reserve_2 : decode cX0_reserve 2 = .ok (.iload_n 1, 1) := by decide +kernel
theorem dX0_reserve_3 : decode cX0_reserve 3 = .ok (.aload_n 0, 1) := by decide +kernel
theorem dX0_reserve_4 : decode cX0_reserve 4 = .ok (.getfield 55, 3) := by decide +kernel
theorem dX0_reserve_7 : decode cX0_reserve 7 = .ok (.invokevirtual 82, 3) := by decide +kernel
theorem dX0_reserve_10 : decode cX0_reserve 10 = .ok (.if_icmp .ge 71, 3) := by decide +kernel
theorem dX0_reserve_13 : decode cX0_reserve 13 = .ok (.aload_n 0, 1) := by decide +kernel
theorem dX0_reserve_14 : decode cX0_reserve 14 = .ok (.getfield 55, 3) := by decide +kernel
theorem dX0_reserve_17 : decode cX0_reserve 17 = .ok (.iload_n 1, 1) := by decide +kernel
theorem dX0_reserve_18 : decode cX0_reserve 18 = .ok (.invokevirtual 123, 3) := by decide +kernel
theorem dX0_reserve_21 : decode cX0_reserve 21 = .ok (.astore_n 2, 1) := by decide +kernel
theorem dX0_reserve_22 : decode cX0_reserve 22 = .ok (.aload_n 2, 1) := by decide +kernel
theorem dX0_reserve_23 : decode cX0_reserve 23 = .ok (.ifnonnull 7, 3) := by decide +kernel
theorem dX0_reserve_26 : decode cX0_reserve 26 = .ok (.iconst (-1), 1) := by decide +kernel
theorem dX0_reserve_27 : decode cX0_reserve 27 = .ok (.goto 18, 3) := by decide +kernel
theorem dX0_reserve_30 : decode cX0_reserve 30 = .ok (.aload_n 0, 1) := by decide +kernel
theorem dX0_reserve_31 : decode cX0_reserve 31 = .ok (.getfield 88, 3) := by decide +kernel
theorem dX0_reserve_34 : decode cX0_reserve 34 = .ok (.aload_n 0, 1) := by decide +kernel
theorem dX0_reserve_35 : decode cX0_reserve 35 = .ok (.getfield 15, 3) := by decide +kernel
theorem dX0_reserve_38 : decode cX0_reserve 38 = .ok (.aload_n 2, 1) := by decide +kernel
theorem dX0_reserve_39 : decode cX0_reserve 39 = .ok (.invokevirtual 126, 3) := by decide +kernel
theorem dX0_reserve_42 : decode cX0_reserve 42 = .ok (.invokevirtual 127, 3) := by decide +kernel
theorem dX0_reserve_45 : decode cX0_reserve 45 = .ok (.istore_n 3, 1) := by decide +kernel
theorem dX0_reserve_46 : decode cX0_reserve 46 = .ok (.aload_n 2, 1) := by decide +kernel
theorem dX0_reserve_47 : decode cX0_reserve 47 = .ok (.ifnull 8, 3) := by decide +kernel
theorem dX0_reserve_50 : decode cX0_reserve 50 = .ok (.iload_n 3, 1) := by decide +kernel
theorem dX0_reserve_51 : decode cX0_reserve 51 = .ok (.iconst (-1), 1) := by decide +kernel
theorem dX0_reserve_52 : decode cX0_reserve 52 = .ok (.if_icmp .ne 5, 3) := by decide +kernel
theorem dX0_reserve_55 : decode cX0_reserve 55 = .ok (.iload_n 1, 1) := by decide +kernel
theorem dX0_reserve_56 : decode cX0_reserve 56 = .ok (.ireturn, 1) := by decide +kernel
theorem dX0_reserve_57 : decode cX0_reserve 57 = .ok (.aload_n 2, 1) := by decide +kernel
theorem dX0_reserve_58 : decode cX0_reserve 58 = .ok (.iload_n 3, 1) := by decide +kernel
theorem dX0_reserve_59 : decode cX0_reserve 59 = .ok (.putfield 131, 3) := by decide +kernel
theorem dX0_reserve_62 : decode cX0_reserve 62 = .ok (.aload_n 0, 1) := by decide +kernel
theorem dX0_reserve_63 : decode cX0_reserve 63 = .ok (.getfield 88, 3) := by decide +kernel
theorem dX0_reserve_66 : decode cX0_reserve 66 = .ok (.iload_n 3, 1) := by decide +kernel
theorem dX0_reserve_67 : decode cX0_reserve 67 = .ok (.aload_n 2, 1) := by decide +kernel
theorem dX0_reserve_68 : decode cX0_reserve 68 = .ok (.invokevirtual 126, 3) := by decide +kernel
theorem dX0_reserve_71 : decode cX0_reserve 71 = .ok (.aload_n 2, 1) := by decide +kernel
theorem dX0_reserve_72 : decode cX0_reserve 72 = .ok (.invokevirtual 95, 3) := by decide +kernel
theorem dX0_reserve_75 : decode cX0_reserve 75 = .ok (.iinc 1 1, 3) := by decide +kernel
theorem dX0_reserve_78 : decode cX0_reserve 78 = .ok (.goto (-76), 3) := by decide +kernel
theorem dX0_reserve_81 : decode cX0_reserve 81 = .ok (.aload_n 0, 1) := by decide +kernel
theorem dX0_reserve_82 : decode cX0_reserve 82 = .ok (.getfield 55, 3) := by decide +kernel
theorem dX0_reserve_85 : decode cX0_reserve 85 = .ok (.invokevirtual 82, 3) := by decide +kernel
theorem dX0_reserve_88 : decode cX0_reserve 88 = .ok (.ireturn, 1) := by decide +kernel
theorem dX0_giveBack_0 : decode cX0_giveBack 0 = .ok (.iconst 0, 1) := by decide +kernel
theorem dX0_giveBack_1 : decode cX0_giveBack 1 = .ok (.istore_n 2, 1) := by decide +kernel
theorem dX0_giveBack_2 : decode cX0_giveBack 2 = .ok (.iload_n 2, 1) := by decide +kernel
theorem dX0_giveBack_3 : decode cX0_giveBack 3 = .ok (.iload_n 1, 1) := by decide +kernel
theorem dX0_giveBack_4 : decode cX0_giveBack 4 = .ok (.if_icmp .ge 38, 3) := by decide +kernel
theorem dX0_giveBack_7 : decode cX0_giveBack 7 = .ok (.aload_n 0, 1) := by decide +kernel
theorem dX0_giveBack_8 : decode cX0_giveBack 8 = .ok (.getfield 55, 3) := by decide +kernel
theorem dX0_giveBack_11 : decode cX0_giveBack 11 = .ok (.iload_n 2, 1) := by decide +kernel
theorem dX0_giveBack_12 : decode cX0_giveBack 12 = .ok (.invokevirtual 123, 3) := by decide +kernel
theorem dX0_giveBack_15 : decode cX0_giveBack 15 = .ok (.astore_n 3, 1) := by decide +kernel
theorem dX0_giveBack_16 : decode cX0_giveBack 16 = .ok (.aload_n 3, 1) := by decide +kernel
theorem dX0_giveBack_17 : decode cX0_giveBack 17 = .ok (.ifnull 19, 3) := by decide +kernel
theorem dX0_giveBack_20 : decode cX0_giveBack 20 = .ok (.aload_n 0, 1) := by decide +kernel
theorem dX0_giveBack_21 : decode cX0_giveBack 21 = .ok (.getfield 88, 3) := by decide +kernel
theorem dX0_giveBack_24 : decode cX0_giveBack 24 = .ok (.aload_n 3, 1) := by decide +kernel
theorem dX0_giveBack_25 : decode cX0_giveBack 25 = .ok (.getfield 131, 3) := by decide +kernel
theorem dX0_giveBack_28 : decode cX0_giveBack 28 = .ok (.aload_n 3, 1) := by decide +kernel
theorem dX0_giveBack_29 : decode cX0_giveBack 29 = .ok (.invokevirtual 126, 3) := by decide +kernel
theorem dX0_giveBack_32 : decode cX0_giveBack 32 = .ok (.aconst_null, 1) := by decide +kernel
theorem dX0_giveBack_33 : decode cX0_giveBack 33 = .ok (.invokevirtual 95, 3) := by decide +kernel
theorem dX0_giveBack_36 : decode cX0_giveBack 36 = .ok (.iinc 2 1, 3) := by decide +kernel
theorem dX0_giveBack_39 : decode cX0_giveBack 39 = .ok (.goto (-37), 3) := by decide +kernel
theorem dX0_giveBack_42 : decode cX0_giveBack 42 = .ok (.return_, 1) := by decide +kernel
theorem dX0_goOver_0 : decode cX0_goOver 0 = .ok (.iconst 0, 1) := by decide +kernel
theorem dX0_goOver_1 : decode cX0_goOver 1 = .ok (.istore_n 1, 1) := by decide +kernel
theorem dX0_goOver_2 : decode cX0_goOver 2 = .ok (.iload_n 1, 1) := by decide +kernel
theorem dX0_goOver_3 : decode cX0_goOver 3 = .ok (.aload_n 0, 1) := by decide +kernel
theorem dX0_goOver_4 : decode cX0_goOver 4 = .ok (.getfield 55, 3) := by decide +kernel
theorem dX0_goOver_7 : decode cX0_goOver 7 = .ok (.invokevirtual 82, 3) := by decide +kernel
theorem dX0_goOver_10 : decode cX0_goOver 10 = .ok (.if_icmp .ge 40, 3) := by decide +kernel
theorem dX0_goOver_13 : decode cX0_goOver 13 = .ok (.aload_n 0, 1) := by decide +kernel
theorem dX0_goOver_14 : decode cX0_goOver 14 = .ok (.getfield 55, 3) := by decide +kernel
theorem dX0_goOver_17 : decode cX0_goOver 17 = .ok (.iload_n 1, 1) := by decide +kernel
theorem dX0_goOver_18 : decode cX0_goOver 18 = .ok (.invokevirtual 123, 3) := by decide +kernel
theorem dX0_goOver_21 : decode cX0_goOver 21 = .ok (.astore_n 2, 1) := by decide +kernel
theorem dX0_goOver_22 : decode cX0_goOver 22 = .ok (.aload_n 2, 1) := by decide +kernel
theorem dX0_goOver_23 : decode cX0_goOver 23 = .ok (.ifnull 21, 3) := by decide +kernel
theorem dX0_goOver_26 : decode cX0_goOver 26 = .ok (.aload_n 2, 1) := by decide +kernel
theorem dX0_goOver_27 : decode cX0_goOver 27 = .ok (.aload_n 2, 1) := by decide +kernel
theorem dX0_goOver_28 : decode cX0_goOver 28 = .ok (.getfield 131, 3) := by decide +kernel
theorem dX0_goOver_31 : decode cX0_goOver 31 = .ok (.putfield 40, 3) := by decide +kernel
theorem dX0_goOver_34 : decode cX0_goOver 34 = .ok (.aload_n 0, 1) := by decide +kernel
theorem dX0_goOver_35 : decode cX0_goOver 35 = .ok (.dup, 1) := by decide +kernel
theorem dX0_goOver_36 : decode cX0_goOver 36 = .ok (.getfield 134, 3) := by decide +kernel
theorem dX0_goOver_39 : decode cX0_goOver 39 = .ok (.iconst 1, 1) := by decide +kernel
theorem dX0_goOver_40 : decode cX0_goOver 40 = .ok (.iadd, 1) := by decide +kernel
theorem dX0_goOver_41 : decode cX0_goOver 41 = .ok (.putfield 134, 3) := by decide +kernel
theorem dX0_goOver_44 : decode cX0_goOver 44 = .ok (.iinc 1 1, 3) := by decide +kernel
theorem dX0_goOver_47 : decode cX0_goOver 47 = .ok (.goto (-45), 3) := by decide +kernel
theorem dX0_goOver_50 : decode cX0_goOver 50 = .ok (.return_, 1) := by decide +kernel
theorem dX0_forget_0 : decode cX0_forget 0 = .ok (.aload_n 0, 1) := by decide +kernel
theorem dX0_forget_1 : decode cX0_forget 1 = .ok (.getfield 15, 3) := by decide +kernel
theorem dX0_forget_4 : decode cX0_forget 4 = .ok (.istore_n 1, 1) := by decide +kernel
theorem dX0_forget_5 : decode cX0_forget 5 = .ok (.iload_n 1, 1) := by decide +kernel
theorem dX0_forget_6 : decode cX0_forget 6 = .ok (.aload_n 0, 1) := by decide +kernel
theorem dX0_forget_7 : decode cX0_forget 7 = .ok (.getfield 88, 3) := by decide +kernel
theorem dX0_forget_10 : decode cX0_forget 10 = .ok (.invokevirtual 9, 3) := by decide +kernel
theorem dX0_forget_13 : decode cX0_forget 13 = .ok (.if_icmp .ge 27, 3) := by decide +kernel
theorem dX0_forget_16 : decode cX0_forget 16 = .ok (.aload_n 0, 1) := by decide +kernel
theorem dX0_forget_17 : decode cX0_forget 17 = .ok (.getfield 88, 3) := by decide +kernel
theorem dX0_forget_20 : decode cX0_forget 20 = .ok (.iload_n 1, 1) := by decide +kernel
theorem dX0_forget_21 : decode cX0_forget 21 = .ok (.invokevirtual 111, 3) := by decide +kernel
theorem dX0_forget_24 : decode cX0_forget 24 = .ok (.astore_n 2, 1) := by decide +kernel
theorem dX0_forget_25 : decode cX0_forget 25 = .ok (.aload_n 2, 1) := by decide +kernel
theorem dX0_forget_26 : decode cX0_forget 26 = .ok (.ifnull 8, 3) := by decide +kernel
theorem dX0_forget_29 : decode cX0_forget 29 = .ok (.aload_n 2, 1) := by decide +kernel
theorem dX0_forget_30 : decode cX0_forget 30 = .ok (.iconst 0, 1) := by decide +kernel
theorem dX0_forget_31 : decode cX0_forget 31 = .ok (.putfield 115, 3) := by decide +kernel
theorem dX0_forget_34 : decode cX0_forget 34 = .ok (.iinc 1 1, 3) := by decide +kernel
theorem dX0_forget_37 : decode cX0_forget 37 = .ok (.goto (-32), 3) := by decide +kernel
theorem dX0_forget_40 : decode cX0_forget 40 = .ok (.return_, 1) := by decide +kernel
theorem dX1_init_0 : decode cX1_init 0 = .ok (.aload_n 0, 1) := by decide +kernel
theorem dX1_init_1 : decode cX1_init 1 = .ok (.aload_n 1, 1) := by decide +kernel
theorem dX1_init_2 : decode cX1_init 2 = .ok (.aload_n 2, 1) := by decide +kernel
theorem dX1_init_3 : decode cX1_init 3 = .ok (.invokespecial 1, 3) := by decide +kernel
theorem dX1_init_6 : decode cX1_init 6 = .ok (.aload_n 0, 1) := by decide +kernel
theorem dX1_init_7 : decode cX1_init 7 = .ok (.aload_n 1, 1) := by decide +kernel
theorem dX1_init_8 : decode cX1_init 8 = .ok (.invokevirtual 7, 3) := by decide +kernel
theorem dX1_init_11 : decode cX1_init 11 = .ok (.iconst 2, 1) := by decide +kernel
theorem dX1_init_12 : decode cX1_init 12 = .ok (.idiv, 1) := by decide +kernel
theorem dX1_init_13 : decode cX1_init 13 = .ok (.putfield 13, 3) := by decide +kernel
theorem dX1_init_16 : decode cX1_init 16 = .ok (.aload_n 0, 1) := by decide +kernel
theorem dX1_init_17 : decode cX1_init 17 = .ok (.new 19, 3) := by decide +kernel
theorem dX1_init_20 : decode cX1_init 20 = .ok (.dup, 1) := by decide +kernel
theorem dX1_init_21 : decode cX1_init 21 = .ok (.iconst 0, 1) := by decide +kernel
theorem dX1_init_22 : decode cX1_init 22 = .ok (.aload_n 0, 1) := by decide +kernel
theorem dX1_init_23 : decode cX1_init 23 = .ok (.getfield 13, 3) := by decide +kernel
theorem dX1_init_26 : decode cX1_init 26 = .ok (.invokespecial 21, 3) := by decide +kernel
theorem dX1_init_29 : decode cX1_init 29 = .ok (.putfield 24, 3) := by decide +kernel
theorem dX1_init_32 : decode cX1_init 32 = .ok (.aload_n 0, 1) := by decide +kernel
theorem dX1_init_33 : decode cX1_init 33 = .ok (.iconst 0, 1) := by decide +kernel
theorem dX1_init_34 : decode cX1_init 34 = .ok (.putfield 28, 3) := by decide +kernel
theorem dX1_init_37 : decode cX1_init 37 = .ok (.return_, 1) := by decide +kernel
theorem dX1_take_0 : decode cX1_take 0 = .ok (.aload_n 0, 1) := by decide +kernel
theorem dX1_take_1 : decode cX1_take 1 = .ok (.getfield 24, 3) := by decide +kernel
theorem dX1_take_4 : decode cX1_take 4 = .ok (.iload_n 1, 1) := by decide +kernel
theorem dX1_take_5 : decode cX1_take 5 = .ok (.invokevirtual 31, 3) := by decide +kernel
theorem dX1_take_8 : decode cX1_take 8 = .ok (.ireturn, 1) := by decide +kernel
theorem dX1_clearRoomFor_0 : decode cX1_clearRoomFor 0 = .ok (.aload_n 0, 1) := by decide +kernel
theorem dX1_clearRoomFor_1 : decode cX1_clearRoomFor 1 = .ok (.invokevirtual 35, 3) := by decide +kernel
theorem dX1_clearRoomFor_4 : decode cX1_clearRoomFor 4 = .ok (.pop, 1) := by decide +kernel
theorem dX1_clearRoomFor_5 : decode cX1_clearRoomFor 5 = .ok (.return_, 1) := by decide +kernel
theorem dX1_gather_0 : decode cX1_gather 0 = .ok (.aload_n 0, 1) := by decide +kernel
theorem dX1_gather_1 : decode cX1_gather 1 = .ok (.dup, 1) := by decide +kernel
theorem dX1_gather_2 : decode cX1_gather 2 = .ok (.getfield 38, 3) := by decide +kernel
theorem dX1_gather_5 : decode cX1_gather 5 = .ok (.iconst 1, 1) := by decide +kernel
theorem dX1_gather_6 : decode cX1_gather 6 = .ok (.iadd, 1) := by decide +kernel
theorem dX1_gather_7 : decode cX1_gather 7 = .ok (.putfield 38, 3) := by decide +kernel
theorem dX1_gather_10 : decode cX1_gather 10 = .ok (.aload_n 0, 1) := by decide +kernel
theorem dX1_gather_11 : decode cX1_gather 11 = .ok (.getfield 41, 3) := by decide +kernel
theorem dX1_gather_14 : decode cX1_gather 14 = .ok (.aload_n 0, 1) := by decide +kernel
theorem dX1_gather_15 : decode cX1_gather 15 = .ok (.getfield 41, 3) := by decide +kernel
theorem dX1_gather_18 : decode cX1_gather 18 = .ok (.invokevirtual 7, 3) := by decide +kernel
theorem dX1_gather_21 : decode cX1_gather 21 = .ok (.invokevirtual 45, 3) := by decide +kernel
theorem dX1_gather_24 : decode cX1_gather 24 = .ok (.istore_n 1, 1) := by decide +kernel
theorem dX1_gather_25 : decode cX1_gather 25 = .ok (.aload_n 0, 1) := by decide +kernel
theorem dX1_gather_26 : decode cX1_gather 26 = .ok (.invokevirtual 48, 3) := by decide +kernel
theorem dX1_gather_29 : decode cX1_gather 29 = .ok (.aload_n 0, 1) := by decide +kernel
theorem dX1_gather_30 : decode cX1_gather 30 = .ok (.getfield 41, 3) := by decide +kernel
theorem dX1_gather_33 : decode cX1_gather 33 = .ok (.iconst 0, 1) := by decide +kernel
theorem dX1_gather_34 : decode cX1_gather 34 = .ok (.aload_n 0, 1) := by decide +kernel
theorem dX1_gather_35 : decode cX1_gather 35 = .ok (.getfield 41, 3) := by decide +kernel
theorem dX1_gather_38 : decode cX1_gather 38 = .ok (.invokevirtual 7, 3) := by decide +kernel
theorem dX1_gather_41 : decode cX1_gather 41 = .ok (.aconst_null, 1) := by decide +kernel
theorem dX1_gather_42 : decode cX1_gather 42 = .ok (.invokevirtual 52, 3) := by decide +kernel
theorem dX1_gather_45 : decode cX1_gather 45 = .ok (.aload_n 0, 1) := by decide +kernel
theorem dX1_gather_46 : decode cX1_gather 46 = .ok (.aload_n 0, 1) := by decide +kernel
theorem dX1_gather_47 : decode cX1_gather 47 = .ok (.getfield 28, 3) := by decide +kernel
theorem dX1_gather_50 : decode cX1_gather 50 = .ok (.ifCond .ne 10, 3) := by decide +kernel
theorem dX1_gather_53 : decode cX1_gather 53 = .ok (.aload_n 0, 1) := by decide +kernel
theorem dX1_gather_54 : decode cX1_gather 54 = .ok (.getfield 13, 3) := by decide +kernel
theorem dX1_gather_57 : decode cX1_gather 57 = .ok (.goto 4, 3) := by decide +kernel
theorem dX1_gather_60 : decode cX1_gather 60 = .ok (.iconst 0, 1) := by decide +kernel
theorem dX1_gather_61 : decode cX1_gather 61 = .ok (.putfield 28, 3) := by decide +kernel
theorem dX1_gather_64 : decode cX1_gather 64 = .ok (.aload_n 0, 1) := by decide +kernel
theorem dX1_gather_65 : decode cX1_gather 65 = .ok (.getfield 24, 3) := by decide +kernel
theorem dX1_gather_68 : decode cX1_gather 68 = .ok (.aload_n 0, 1) := by decide +kernel
theorem dX1_gather_69 : decode cX1_gather 69 = .ok (.getfield 28, 3) := by decide +kernel
theorem dX1_gather_72 : decode cX1_gather 72 = .ok (.aload_n 0, 1) := by decide +kernel
theorem dX1_gather_73 : decode cX1_gather 73 = .ok (.getfield 13, 3) := by decide +kernel
theorem dX1_gather_76 : decode cX1_gather 76 = .ok (.invokevirtual 56, 3) := by decide +kernel
theorem dX1_gather_79 : decode cX1_gather 79 = .ok (.iconst 0, 1) := by decide +kernel
theorem dX1_gather_80 : decode cX1_gather 80 = .ok (.istore_n 2, 1) := by decide +kernel
theorem dX1_gather_81 : decode cX1_gather 81 = .ok (.iload_n 2, 1) := by decide +kernel
theorem dX1_gather_82 : decode cX1_gather 82 = .ok (.aload_n 0, 1) := by decide +kernel
theorem dX1_gather_83 : decode cX1_gather 83 = .ok (.getfield 59, 3) := by decide +kernel
theorem dX1_gather_86 : decode cX1_gather 86 = .ok (.invokevirtual 63, 3) := by decide +kernel
theorem dX1_gather_89 : decode cX1_gather 89 = .ok (.if_icmp .ge 51, 3) := by decide +kernel
theorem dX1_gather_92 : decode cX1_gather 92 = .ok (.aload_n 0, 1) := by decide +kernel
theorem dX1_gather_93 : decode cX1_gather 93 = .ok (.getfield 59, 3) := by decide +kernel
theorem dX1_gather_96 : decode cX1_gather 96 = .ok (.iload_n 2, 1) := by decide +kernel
theorem dX1_gather_97 : decode cX1_gather 97 = .ok (.invokevirtual 68, 3) := by decide +kernel
theorem dX1_gather_100 : decode cX1_gather 100 = .ok (.astore_n 3, 1) := by decide +kernel
theorem dX1_gather_101 : decode cX1_gather 101 = .ok (.aload_n 3, 1) := by decide +kernel
theorem dX1_gather_102 : decode cX1_gather 102 = .ok (.ifnull 32, 3) := by decide +kernel
theorem dX1_gather_105 : decode cX1_gather 105 = .ok (.aload_n 0, 1) := by decide +kernel
theorem dX1_gather_106 : decode cX1_gather 106 = .ok (.getfield 41, 3) := by decide +kernel
theorem dX1_gather_109 : decode cX1_gather 109 = .ok (.aload_n 3, 1) := by decide +kernel
theorem dX1_gather_110 : decode cX1_gather 110 = .ok (.aload_n 0, 1) := by decide +kernel
theorem dX1_gather_111 : decode cX1_gather 111 = .ok (.getfield 24, 3) := by decide +kernel
theorem dX1_gather_114 : decode cX1_gather 114 = .ok (.aload_n 3, 1) := by decide +kernel
theorem dX1_gather_115 : decode cX1_gather 115 = .ok (.invokevirtual 72, 3) := by decide +kernel
theorem dX1_gather_118 : decode cX1_gather 118 = .ok (.invokevirtual 31, 3) := by decide +kernel
theorem dX1_gather_121 : decode cX1_gather 121 = .ok (.invokevirtual 75, 3) := by decide +kernel
theorem dX1_gather_124 : decode cX1_gather 124 = .ok (.aload_n 0, 1) := by decide +kernel
theorem dX1_gather_125 : decode cX1_gather 125 = .ok (.dup, 1) := by decide +kernel
theorem dX1_gather_126 : decode cX1_gather 126 = .ok (.getfield 79, 3) := by decide +kernel
theorem dX1_gather_129 : decode cX1_gather 129 = .ok (.iconst 1, 1) := by decide +kernel
theorem dX1_gather_130 : decode cX1_gather 130 = .ok (.iadd, 1) := by decide +kernel
theorem dX1_gather_131 : decode cX1_gather 131 = .ok (.putfield 79, 3) := by decide +kernel
theorem dX1_gather_134 : decode cX1_gather 134 = .ok (.iinc 2 1, 3) := by decide +kernel
theorem dX1_gather_137 : decode cX1_gather 137 = .ok (.goto (-56), 3) := by decide +kernel
theorem dX1_gather_140 : decode cX1_gather 140 = .ok (.iload_n 1, 1) := by decide +kernel
theorem dX1_gather_141 : decode cX1_gather 141 = .ok (.aload_n 0, 1) := by decide +kernel
theorem dX1_gather_142 : decode cX1_gather 142 = .ok (.getfield 59, 3) := by decide +kernel
theorem dX1_gather_145 : decode cX1_gather 145 = .ok (.invokevirtual 63, 3) := by decide +kernel
theorem dX1_gather_148 : decode cX1_gather 148 = .ok (.isub, 1) := by decide +kernel
theorem dX1_gather_149 : decode cX1_gather 149 = .ok (.ireturn, 1) := by decide +kernel
theorem dX2_init_0 : decode cX2_init 0 = .ok (.aload_n 0, 1) := by decide +kernel
theorem dX2_init_1 : decode cX2_init 1 = .ok (.invokespecial 3, 3) := by decide +kernel
theorem dX2_init_4 : decode cX2_init 4 = .ok (.aload_n 0, 1) := by decide +kernel
theorem dX2_init_5 : decode cX2_init 5 = .ok (.aload_n 1, 1) := by decide +kernel
theorem dX2_init_6 : decode cX2_init 6 = .ok (.putfield 9, 3) := by decide +kernel
theorem dX2_init_9 : decode cX2_init 9 = .ok (.aload_n 0, 1) := by decide +kernel
theorem dX2_init_10 : decode cX2_init 10 = .ok (.aload_n 2, 1) := by decide +kernel
theorem dX2_init_11 : decode cX2_init 11 = .ok (.putfield 15, 3) := by decide +kernel
theorem dX2_init_14 : decode cX2_init 14 = .ok (.aload_n 0, 1) := by decide +kernel
theorem dX2_init_15 : decode cX2_init 15 = .ok (.new 19, 3) := by decide +kernel
theorem dX2_init_18 : decode cX2_init 18 = .ok (.dup, 1) := by decide +kernel
theorem dX2_init_19 : decode cX2_init 19 = .ok (.aload_n 1, 1) := by decide +kernel
theorem dX2_init_20 : decode cX2_init 20 = .ok (.invokevirtual 21, 3) := by decide +kernel
theorem dX2_init_23 : decode cX2_init 23 = .ok (.invokespecial 27, 3) := by decide +kernel
theorem dX2_init_26 : decode cX2_init 26 = .ok (.putfield 30, 3) := by decide +kernel
theorem dX2_init_29 : decode cX2_init 29 = .ok (.aload_n 0, 1) := by decide +kernel
theorem dX2_init_30 : decode cX2_init 30 = .ok (.iconst 0, 1) := by decide +kernel
theorem dX2_init_31 : decode cX2_init 31 = .ok (.putfield 34, 3) := by decide +kernel
theorem dX2_init_34 : decode cX2_init 34 = .ok (.aload_n 0, 1) := by decide +kernel
theorem dX2_init_35 : decode cX2_init 35 = .ok (.iconst 0, 1) := by decide +kernel
theorem dX2_init_36 : decode cX2_init 36 = .ok (.putfield 38, 3) := by decide +kernel
theorem dX2_init_39 : decode cX2_init 39 = .ok (.aload_n 0, 1) := by decide +kernel
theorem dX2_init_40 : decode cX2_init 40 = .ok (.iconst 0, 1) := by decide +kernel
theorem dX2_init_41 : decode cX2_init 41 = .ok (.putfield 41, 3) := by decide +kernel
theorem dX2_init_44 : decode cX2_init 44 = .ok (.return_, 1) := by decide +kernel
theorem dX2_gatherYoung_0 : decode cX2_gatherYoung 0 = .ok (.bipush (-2), 2) := by decide +kernel
theorem dX2_gatherYoung_2 : decode cX2_gatherYoung 2 = .ok (.ireturn, 1) := by decide +kernel
theorem dX2_isOld_0 : decode cX2_isOld 0 = .ok (.iconst 0, 1) := by decide +kernel
theorem dX2_isOld_1 : decode cX2_isOld 1 = .ok (.ireturn, 1) := by decide +kernel
theorem dX2_reachedThings_0 : decode cX2_reachedThings 0 = .ok (.aload_n 0, 1) := by decide +kernel
theorem dX2_reachedThings_1 : decode cX2_reachedThings 1 = .ok (.invokevirtual 44, 3) := by decide +kernel
theorem dX2_reachedThings_4 : decode cX2_reachedThings 4 = .ok (.aload_n 0, 1) := by decide +kernel
theorem dX2_reachedThings_5 : decode cX2_reachedThings 5 = .ok (.getfield 30, 3) := by decide +kernel
theorem dX2_reachedThings_8 : decode cX2_reachedThings 8 = .ok (.invokevirtual 47, 3) := by decide +kernel
theorem dX2_reachedThings_11 : decode cX2_reachedThings 11 = .ok (.ireturn, 1) := by decide +kernel
theorem dX2_walkFromRoots_0 : decode cX2_walkFromRoots 0 = .ok (.aload_n 0, 1) := by decide +kernel
theorem dX2_walkFromRoots_1 : decode cX2_walkFromRoots 1 = .ok (.getfield 30, 3) := by decide +kernel
theorem dX2_walkFromRoots_4 : decode cX2_walkFromRoots 4 = .ok (.aload_n 0, 1) := by decide +kernel
theorem dX2_walkFromRoots_5 : decode cX2_walkFromRoots 5 = .ok (.getfield 9, 3) := by decide +kernel
theorem dX2_walkFromRoots_8 : decode cX2_walkFromRoots 8 = .ok (.invokevirtual 21, 3) := by decide +kernel
theorem dX2_walkFromRoots_11 : decode cX2_walkFromRoots 11 = .ok (.invokevirtual 50, 3) := by decide +kernel
theorem dX2_walkFromRoots_14 : decode cX2_walkFromRoots 14 = .ok (.aload_n 0, 1) := by decide +kernel
theorem dX2_walkFromRoots_15 : decode cX2_walkFromRoots 15 = .ok (.getfield 30, 3) := by decide +kernel
theorem dX2_walkFromRoots_18 : decode cX2_walkFromRoots 18 = .ok (.aload_n 0, 1) := by decide +kernel
theorem dX2_walkFromRoots_19 : decode cX2_walkFromRoots 19 = .ok (.getfield 15, 3) := by decide +kernel
theorem dX2_walkFromRoots_22 : decode cX2_walkFromRoots 22 = .ok (.invokevirtual 53, 3) := by decide +kernel
theorem dX2_walkFromRoots_25 : decode cX2_walkFromRoots 25 = .ok (.aload_n 0, 1) := by decide +kernel
theorem dX2_walkFromRoots_26 : decode cX2_walkFromRoots 26 = .ok (.getfield 30, 3) := by decide +kernel
theorem dX2_walkFromRoots_29 : decode cX2_walkFromRoots 29 = .ok (.invokevirtual 57, 3) := by decide +kernel
theorem dX2_walkFromRoots_32 : decode cX2_walkFromRoots 32 = .ok (.return_, 1) := by decide +kernel
theorem dX2_sweepFrom_0 : decode cX2_sweepFrom 0 = .ok (.iconst 0, 1) := by decide +kernel
theorem dX2_sweepFrom_1 : decode cX2_sweepFrom 1 = .ok (.istore_n 2, 1) := by decide +kernel
theorem dX2_sweepFrom_2 : decode cX2_sweepFrom 2 = .ok (.iload_n 1, 1) := by decide +kernel
theorem dX2_sweepFrom_3 : decode cX2_sweepFrom 3 = .ok (.istore_n 3, 1) := by decide +kernel
theorem dX2_sweepFrom_4 : decode cX2_sweepFrom 4 = .ok (.iload_n 3, 1) := by decide +kernel
theorem dX2_sweepFrom_5 : decode cX2_sweepFrom 5 = .ok (.aload_n 0, 1) := by decide +kernel
theorem dX2_sweepFrom_6 : decode cX2_sweepFrom 6 = .ok (.getfield 9, 3) := by decide +kernel
theorem dX2_sweepFrom_9 : decode cX2_sweepFrom 9 = .ok (.invokevirtual 21, 3) := by decide +kernel
theorem dX2_sweepFrom_12 : decode cX2_sweepFrom 12 = .ok (.if_icmp .ge 53, 3) := by decide +kernel
theorem dX2_sweepFrom_15 : decode cX2_sweepFrom 15 = .ok (.aload_n 0, 1) := by decide +kernel
theorem dX2_sweepFrom_16 : decode cX2_sweepFrom 16 = .ok (.getfield 9, 3) := by decide +kernel
theorem dX2_sweepFrom_19 : decode cX2_sweepFrom 19 = .ok (.iload_n 3, 1) := by decide +kernel
theorem dX2_sweepFrom_20 : decode cX2_sweepFrom 20 = .ok (.invokevirtual 60, 3) := by decide +kernel
theorem dX2_sweepFrom_23 : decode cX2_sweepFrom 23 = .ok (.astore 4, 2) := by decide +kernel
theorem dX2_sweepFrom_25 : decode cX2_sweepFrom 25 = .ok (.aload 4, 2) := by decide +kernel
theorem dX2_sweepFrom_27 : decode cX2_sweepFrom 27 = .ok (.ifnull 32, 3) := by decide +kernel
theorem dX2_sweepFrom_30 : decode cX2_sweepFrom 30 = .ok (.aload_n 0, 1) := by decide +kernel
theorem dX2_sweepFrom_31 : decode cX2_sweepFrom 31 = .ok (.getfield 30, 3) := by decide +kernel
theorem dX2_sweepFrom_34 : decode cX2_sweepFrom 34 = .ok (.aload 4, 2) := by decide +kernel
theorem dX2_sweepFrom_36 : decode cX2_sweepFrom 36 = .ok (.invokevirtual 64, 3) := by decide +kernel
theorem dX2_sweepFrom_39 : decode cX2_sweepFrom 39 = .ok (.ifCond .ne 20, 3) := by decide +kernel
theorem dX2_sweepFrom_42 : decode cX2_sweepFrom 42 = .ok (.aload_n 0, 1) := by decide +kernel
theorem dX2_sweepFrom_43 : decode cX2_sweepFrom 43 = .ok (.getfield 9, 3) := by decide +kernel
theorem dX2_sweepFrom_46 : decode cX2_sweepFrom 46 = .ok (.iload_n 3, 1) := by decide +kernel
theorem dX2_sweepFrom_47 : decode cX2_sweepFrom 47 = .ok (.aload 4, 2) := by decide +kernel
theorem dX2_sweepFrom_49 : decode cX2_sweepFrom 49 = .ok (.invokevirtual 68, 3) := by decide +kernel
theorem dX2_sweepFrom_52 : decode cX2_sweepFrom 52 = .ok (.aconst_null, 1) := by decide +kernel
theorem dX2_sweepFrom_53 : decode cX2_sweepFrom 53 = .ok (.invokevirtual 71, 3) := by decide +kernel
theorem dX2_sweepFrom_56 : decode cX2_sweepFrom 56 = .ok (.iinc 2 1, 3) := by decide +kernel
theorem dX2_sweepFrom_59 : decode cX2_sweepFrom 59 = .ok (.iinc 3 1, 3) := by decide +kernel
theorem dX2_sweepFrom_62 : decode cX2_sweepFrom 62 = .ok (.goto (-58), 3) := by decide +kernel
theorem dX2_sweepFrom_65 : decode cX2_sweepFrom 65 = .ok (.iload_n 2, 1) := by decide +kernel
theorem dX2_sweepFrom_66 : decode cX2_sweepFrom 66 = .ok (.ireturn, 1) := by decide +kernel
theorem dX2_sumFrom_0 : decode cX2_sumFrom 0 = .ok (.aload_n 0, 1) := by decide +kernel
theorem dX2_sumFrom_1 : decode cX2_sumFrom 1 = .ok (.getfield 30, 3) := by decide +kernel
theorem dX2_sumFrom_4 : decode cX2_sumFrom 4 = .ok (.aload_n 0, 1) := by decide +kernel
theorem dX2_sumFrom_5 : decode cX2_sumFrom 5 = .ok (.getfield 9, 3) := by decide +kernel
theorem dX2_sumFrom_8 : decode cX2_sumFrom 8 = .ok (.invokevirtual 21, 3) := by decide +kernel
theorem dX2_sumFrom_11 : decode cX2_sumFrom 11 = .ok (.invokevirtual 50, 3) := by decide +kernel
theorem dX2_sumFrom_14 : decode cX2_sumFrom 14 = .ok (.aload_n 0, 1) := by decide +kernel
theorem dX2_sumFrom_15 : decode cX2_sumFrom 15 = .ok (.getfield 30, 3) := by decide +kernel
theorem dX2_sumFrom_18 : decode cX2_sumFrom 18 = .ok (.aload_n 1, 1) := by decide +kernel
theorem dX2_sumFrom_19 : decode cX2_sumFrom 19 = .ok (.invokevirtual 75, 3) := by decide +kernel
theorem dX2_sumFrom_22 : decode cX2_sumFrom 22 = .ok (.aload_n 0, 1) := by decide +kernel
theorem dX2_sumFrom_23 : decode cX2_sumFrom 23 = .ok (.getfield 30, 3) := by decide +kernel
theorem dX2_sumFrom_26 : decode cX2_sumFrom 26 = .ok (.invokevirtual 57, 3) := by decide +kernel
theorem dX2_sumFrom_29 : decode cX2_sumFrom 29 = .ok (.ldc2_w 79, 3) := by decide +kernel
theorem dX2_sumFrom_32 : decode cX2_sumFrom 32 = .ok (.lstore_n 2, 1) := by decide +kernel
theorem dX2_sumFrom_33 : decode cX2_sumFrom 33 = .ok (.iconst 0, 1) := by decide +kernel
theorem dX2_sumFrom_34 : decode cX2_sumFrom 34 = .ok (.istore 4, 2) := by decide +kernel
theorem dX2_sumFrom_36 : decode cX2_sumFrom 36 = .ok (.iload 4, 2) := by decide +kernel
theorem dX2_sumFrom_38 : decode cX2_sumFrom 38 = .ok (.aload_n 0, 1) := by decide +kernel
theorem dX2_sumFrom_39 : decode cX2_sumFrom 39 = .ok (.getfield 30, 3) := by decide +kernel
theorem dX2_sumFrom_42 : decode cX2_sumFrom 42 = .ok (.invokevirtual 47, 3) := by decide +kernel
theorem dX2_sumFrom_45 : decode cX2_sumFrom 45 = .ok (.if_icmp .ge 32, 3) := by decide +kernel
theorem dX2_sumFrom_48 : decode cX2_sumFrom 48 = .ok (.aload_n 0, 1) := by decide +kernel
theorem dX2_sumFrom_49 : decode cX2_sumFrom 49 = .ok (.getfield 30, 3) := by decide +kernel
theorem dX2_sumFrom_52 : decode cX2_sumFrom 52 = .ok (.iload 4, 2) := by decide +kernel
theorem dX2_sumFrom_54 : decode cX2_sumFrom 54 = .ok (.invokevirtual 81, 3) := by decide +kernel
theorem dX2_sumFrom_57 : decode cX2_sumFrom 57 = .ok (.astore 5, 2) := by decide +kernel
theorem dX2_sumFrom_59 : decode cX2_sumFrom 59 = .ok (.aload 5, 2) := by decide +kernel
theorem dX2_sumFrom_61 : decode cX2_sumFrom 61 = .ok (.ifnull 10, 3) := by decide +kernel
theorem dX2_sumFrom_64 : decode cX2_sumFrom 64 = .ok (.lload_n 2, 1) := by decide +kernel
theorem dX2_sumFrom_65 : decode cX2_sumFrom 65 = .ok (.aload 5, 2) := by decide +kernel
theorem dX2_sumFrom_67 : decode cX2_sumFrom 67 = .ok (.invokestatic 84, 3) := by decide +kernel
theorem dX2_sumFrom_70 : decode cX2_sumFrom 70 = .ok (.lstore_n 2, 1) := by decide +kernel
theorem dX2_sumFrom_71 : decode cX2_sumFrom 71 = .ok (.iinc 4 1, 3) := by decide +kernel
theorem dX2_sumFrom_74 : decode cX2_sumFrom 74 = .ok (.goto (-38), 3) := by decide +kernel
theorem dX2_sumFrom_77 : decode cX2_sumFrom 77 = .ok (.lload_n 2, 1) := by decide +kernel
theorem dX2_sumFrom_78 : decode cX2_sumFrom 78 = .ok (.lreturn, 1) := by decide +kernel
theorem dX2_sumWith_0 : decode cX2_sumWith 0 = .ok (.ldc2_w 88, 3) := by decide +kernel
theorem dX2_sumWith_3 : decode cX2_sumWith 3 = .ok (.lload_n 0, 1) := by decide +kernel
theorem dX2_sumWith_4 : decode cX2_sumWith 4 = .ok (.lmul, 1) := by decide +kernel
theorem dX2_sumWith_5 : decode cX2_sumWith 5 = .ok (.aload_n 2, 1) := by decide +kernel
theorem dX2_sumWith_6 : decode cX2_sumWith 6 = .ok (.invokevirtual 90, 3) := by decide +kernel
theorem dX2_sumWith_9 : decode cX2_sumWith 9 = .ok (.i2l, 1) := by decide +kernel
theorem dX2_sumWith_10 : decode cX2_sumWith 10 = .ok (.ladd, 1) := by decide +kernel
theorem dX2_sumWith_11 : decode cX2_sumWith 11 = .ok (.lstore_n 3, 1) := by decide +kernel
theorem dX2_sumWith_12 : decode cX2_sumWith 12 = .ok (.iconst 0, 1) := by decide +kernel
theorem dX2_sumWith_13 : decode cX2_sumWith 13 = .ok (.istore 5, 2) := by decide +kernel
theorem dX2_sumWith_15 : decode cX2_sumWith 15 = .ok (.iload 5, 2) := by decide +kernel
theorem dX2_sumWith_17 : decode cX2_sumWith 17 = .ok (.aload_n 2, 1) := by decide +kernel
theorem dX2_sumWith_18 : decode cX2_sumWith 18 = .ok (.invokevirtual 90, 3) := by decide +kernel
theorem dX2_sumWith_21 : decode cX2_sumWith 21 = .ok (.if_icmp .ge 59, 3) := by decide +kernel
theorem dX2_sumWith_24 : decode cX2_sumWith 24 = .ok (.aload_n 2, 1) := by decide +kernel
theorem dX2_sumWith_25 : decode cX2_sumWith 25 = .ok (.iload 5, 2) := by decide +kernel
theorem dX2_sumWith_27 : decode cX2_sumWith 27 = .ok (.invokevirtual 93, 3) := by decide +kernel
theorem dX2_sumWith_30 : decode cX2_sumWith 30 = .ok (.astore 6, 2) := by decide +kernel
theorem dX2_sumWith_32 : decode cX2_sumWith 32 = .ok (.aload 6, 2) := by decide +kernel
theorem dX2_sumWith_34 : decode cX2_sumWith 34 = .ok (.ifnonnull 17, 3) := by decide +kernel
theorem dX2_sumWith_37 : decode cX2_sumWith 37 = .ok (.ldc2_w 96, 3) := by decide +kernel
theorem dX2_sumWith_40 : decode cX2_sumWith 40 = .ok (.aload_n 2, 1) := by decide +kernel
theorem dX2_sumWith_41 : decode cX2_sumWith 41 = .ok (.iload 5, 2) := by decide +kernel
theorem dX2_sumWith_43 : decode cX2_sumWith 43 = .ok (.invokevirtual 98, 3) := by decide +kernel
theorem dX2_sumWith_46 : decode cX2_sumWith 46 = .ok (.i2l, 1) := by decide +kernel
theorem dX2_sumWith_47 : decode cX2_sumWith 47 = .ok (.lmul, 1) := by decide +kernel
theorem dX2_sumWith_48 : decode cX2_sumWith 48 = .ok (.goto 15, 3) := by decide +kernel
theorem dX2_sumWith_51 : decode cX2_sumWith 51 = .ok (.ldc2_w 96, 3) := by decide +kernel
theorem dX2_sumWith_54 : decode cX2_sumWith 54 = .ok (.aload 6, 2) := by decide +kernel
theorem dX2_sumWith_56 : decode cX2_sumWith 56 = .ok (.getfield 102, 3) := by decide +kernel
theorem dX2_sumWith_59 : decode cX2_sumWith 59 = .ok (.i2l, 1) := by decide +kernel
theorem dX2_sumWith_60 : decode cX2_sumWith 60 = .ok (.lmul, 1) := by decide +kernel
theorem dX2_sumWith_61 : decode cX2_sumWith 61 = .ok (.lconst 1, 1) := by decide +kernel
theorem dX2_sumWith_62 : decode cX2_sumWith 62 = .ok (.ladd, 1) := by decide +kernel
theorem dX2_sumWith_63 : decode cX2_sumWith 63 = .ok (.lstore 7, 2) := by decide +kernel
theorem dX2_sumWith_65 : decode cX2_sumWith 65 = .ok (.ldc2_w 88, 3) := by decide +kernel
theorem dX2_sumWith_68 : decode cX2_sumWith 68 = .ok (.lload_n 3, 1) := by decide +kernel
theorem dX2_sumWith_69 : decode cX2_sumWith 69 = .ok (.lmul, 1) := by decide +kernel
theorem dX2_sumWith_70 : decode cX2_sumWith 70 = .ok (.lload 7, 2) := by decide +kernel
theorem dX2_sumWith_72 : decode cX2_sumWith 72 = .ok (.ladd, 1) := by decide +kernel
theorem dX2_sumWith_73 : decode cX2_sumWith 73 = .ok (.lstore_n 3, 1) := by decide +kernel
theorem dX2_sumWith_74 : decode cX2_sumWith 74 = .ok (.iinc 5 1, 3) := by decide +kernel
theorem dX2_sumWith_77 : decode cX2_sumWith 77 = .ok (.goto (-62), 3) := by decide +kernel
theorem dX2_sumWith_80 : decode cX2_sumWith 80 = .ok (.lload_n 3, 1) := by decide +kernel
theorem dX2_sumWith_81 : decode cX2_sumWith 81 = .ok (.lreturn, 1) := by decide +kernel
theorem dX3_init_0 : decode cX3_init 0 = .ok (.aload_n 0, 1) := by decide +kernel
theorem dX3_init_1 : decode cX3_init 1 = .ok (.invokespecial 3, 3) := by decide +kernel
theorem dX3_init_4 : decode cX3_init 4 = .ok (.aload_n 0, 1) := by decide +kernel
theorem dX3_init_5 : decode cX3_init 5 = .ok (.iload_n 1, 1) := by decide +kernel
theorem dX3_init_6 : decode cX3_init 6 = .ok (.putfield 9, 3) := by decide +kernel
theorem dX3_init_9 : decode cX3_init 9 = .ok (.aload_n 0, 1) := by decide +kernel
theorem dX3_init_10 : decode cX3_init 10 = .ok (.iload_n 1, 1) := by decide +kernel
theorem dX3_init_11 : decode cX3_init 11 = .ok (.iload_n 2, 1) := by decide +kernel
theorem dX3_init_12 : decode cX3_init 12 = .ok (.iadd, 1) := by decide +kernel
theorem dX3_init_13 : decode cX3_init 13 = .ok (.putfield 15, 3) := by decide +kernel
theorem dX3_init_16 : decode cX3_init 16 = .ok (.return_, 1) := by decide +kernel
theorem dX3_restart_0 : decode cX3_restart 0 = .ok (.aload_n 0, 1) := by decide +kernel
theorem dX3_restart_1 : decode cX3_restart 1 = .ok (.iload_n 1, 1) := by decide +kernel
theorem dX3_restart_2 : decode cX3_restart 2 = .ok (.putfield 9, 3) := by decide +kernel
theorem dX3_restart_5 : decode cX3_restart 5 = .ok (.aload_n 0, 1) := by decide +kernel
theorem dX3_restart_6 : decode cX3_restart 6 = .ok (.iload_n 1, 1) := by decide +kernel
theorem dX3_restart_7 : decode cX3_restart 7 = .ok (.iload_n 2, 1) := by decide +kernel
theorem dX3_restart_8 : decode cX3_restart 8 = .ok (.iadd, 1) := by decide +kernel
theorem dX3_restart_9 : decode cX3_restart 9 = .ok (.putfield 15, 3) := by decide +kernel
theorem dX3_restart_12 : decode cX3_restart 12 = .ok (.return_, 1) := by decide +kernel
theorem dX3_take_0 : decode cX3_take 0 = .ok (.aload_n 0, 1) := by decide +kernel
theorem dX3_take_1 : decode cX3_take 1 = .ok (.getfield 9, 3) := by decide +kernel
theorem dX3_take_4 : decode cX3_take 4 = .ok (.iload_n 1, 1) := by decide +kernel
theorem dX3_take_5 : decode cX3_take 5 = .ok (.iadd, 1) := by decide +kernel
theorem dX3_take_6 : decode cX3_take 6 = .ok (.aload_n 0, 1) := by decide +kernel
theorem dX3_take_7 : decode cX3_take 7 = .ok (.getfield 15, 3) := by decide +kernel
theorem dX3_take_10 : decode cX3_take 10 = .ok (.if_icmp .le 5, 3) := by decide +kernel
theorem dX3_take_13 : decode cX3_take 13 = .ok (.iconst (-1), 1) := by decide +kernel
theorem dX3_take_14 : decode cX3_take 14 = .ok (.ireturn, 1) := by decide +kernel
theorem dX3_take_15 : decode cX3_take 15 = .ok (.aload_n 0, 1) := by decide +kernel
theorem dX3_take_16 : decode cX3_take 16 = .ok (.getfield 9, 3) := by decide +kernel
theorem dX3_take_19 : decode cX3_take 19 = .ok (.istore_n 2, 1) := by decide +kernel
theorem dX3_take_20 : decode cX3_take 20 = .ok (.aload_n 0, 1) := by decide +kernel
theorem dX3_take_21 : decode cX3_take 21 = .ok (.dup, 1) := by decide +kernel
theorem dX3_take_22 : decode cX3_take 22 = .ok (.getfield 9, 3) := by decide +kernel
theorem dX3_take_25 : decode cX3_take 25 = .ok (.iload_n 1, 1) := by decide +kernel
theorem dX3_take_26 : decode cX3_take 26 = .ok (.iadd, 1) := by decide +kernel
theorem dX3_take_27 : decode cX3_take 27 = .ok (.putfield 9, 3) := by decide +kernel
theorem dX3_take_30 : decode cX3_take 30 = .ok (.iload_n 2, 1) := by decide +kernel
theorem dX3_take_31 : decode cX3_take 31 = .ok (.ireturn, 1) := by decide +kernel
theorem dX4_init_0 : decode cX4_init 0 = .ok (.aload_n 0, 1) := by decide +kernel
theorem dX4_init_1 : decode cX4_init 1 = .ok (.invokespecial 3, 3) := by decide +kernel
theorem dX4_init_4 : decode cX4_init 4 = .ok (.aload_n 0, 1) := by decide +kernel
theorem dX4_init_5 : decode cX4_init 5 = .ok (.bipush 16, 2) := by decide +kernel
theorem dX4_init_7 : decode cX4_init 7 = .ok (.anewarray 9, 3) := by decide +kernel
theorem dX4_init_10 : decode cX4_init 10 = .ok (.putfield 11, 3) := by decide +kernel
theorem dX4_init_13 : decode cX4_init 13 = .ok (.return_, 1) := by decide +kernel
theorem dX4_has_0 : decode cX4_has 0 = .ok (.iload_n 1, 1) := by decide +kernel
theorem dX4_has_1 : decode cX4_has 1 = .ok (.ifCond .lt 16, 3) := by decide +kernel
theorem dX4_has_4 : decode cX4_has 4 = .ok (.iload_n 1, 1) := by decide +kernel
theorem dX4_has_5 : decode cX4_has 5 = .ok (.aload_n 0, 1) := by decide +kernel
theorem dX4_has_6 : decode cX4_has 6 = .ok (.getfield 11, 3) := by decide +kernel
theorem dX4_has_9 : decode cX4_has 9 = .ok (.arraylength, 1) := by decide +kernel
theorem dX4_has_10 : decode cX4_has 10 = .ok (.if_icmp .ge 7, 3) := by decide +kernel
theorem dX4_has_13 : decode cX4_has 13 = .ok (.iconst 1, 1) := by decide +kernel
theorem dX4_has_14 : decode cX4_has 14 = .ok (.goto 4, 3) := by decide +kernel
theorem dX4_has_17 : decode cX4_has 17 = .ok (.iconst 0, 1) := by decide +kernel
theorem dX4_has_18 : decode cX4_has 18 = .ok (.ireturn, 1) := by decide +kernel
theorem dX4_thingOf_0 : decode cX4_thingOf 0 = .ok (.aload_n 0, 1) := by decide +kernel
theorem dX4_thingOf_1 : decode cX4_thingOf 1 = .ok (.iload_n 1, 1) := by decide +kernel
theorem dX4_thingOf_2 : decode cX4_thingOf 2 = .ok (.invokevirtual 17, 3) := by decide +kernel
theorem dX4_thingOf_5 : decode cX4_thingOf 5 = .ok (.ifCond .eq 12, 3) := by decide +kernel
theorem dX4_thingOf_8 : decode cX4_thingOf 8 = .ok (.aload_n 0, 1) := by decide +kernel
theorem dX4_thingOf_9 : decode cX4_thingOf 9 = .ok (.getfield 11, 3) := by decide +kernel
theorem dX4_thingOf_12 : decode cX4_thingOf 12 = .ok (.iload_n 1, 1) := by decide +kernel
theorem dX4_thingOf_13 : decode cX4_thingOf 13 = .ok (.aaload, 1) := by decide +kernel
theorem dX4_thingOf_14 : decode cX4_thingOf 14 = .ok (.goto 4, 3) := by decide +kernel
theorem dX4_thingOf_17 : decode cX4_thingOf 17 = .ok (.aconst_null, 1) := by decide +kernel
theorem dX4_thingOf_18 : decode cX4_thingOf 18 = .ok (.areturn, 1) := by decide +kernel
theorem dX4_refer_0 : decode cX4_refer 0 = .ok (.aload_n 0, 1) := by decide +kernel
theorem dX4_refer_1 : decode cX4_refer 1 = .ok (.iload_n 1, 1) := by decide +kernel
theorem dX4_refer_2 : decode cX4_refer 2 = .ok (.invokevirtual 17, 3) := by decide +kernel
theorem dX4_refer_5 : decode cX4_refer 5 = .ok (.ifCond .eq 10, 3) := by decide +kernel
theorem dX4_refer_8 : decode cX4_refer 8 = .ok (.aload_n 0, 1) := by decide +kernel
theorem dX4_refer_9 : decode cX4_refer 9 = .ok (.getfield 11, 3) := by decide +kernel
theorem dX4_refer_12 : decode cX4_refer 12 = .ok (.iload_n 1, 1) := by decide +kernel
theorem dX4_refer_13 : decode cX4_refer 13 = .ok (.aload_n 2, 1) := by decide +kernel
theorem dX4_refer_14 : decode cX4_refer 14 = .ok (.aastore, 1) := by decide +kernel
theorem dX4_refer_15 : decode cX4_refer 15 = .ok (.return_, 1) := by decide +kernel
theorem dX5_init_0 : decode cX5_init 0 = .ok (.aload_n 0, 1) := by decide +kernel
theorem dX5_init_1 : decode cX5_init 1 = .ok (.aload_n 1, 1) := by decide +kernel
theorem dX5_init_2 : decode cX5_init 2 = .ok (.aload_n 2, 1) := by decide +kernel
theorem dX5_init_3 : decode cX5_init 3 = .ok (.invokespecial 1, 3) := by decide +kernel
theorem dX5_init_6 : decode cX5_init 6 = .ok (.return_, 1) := by decide +kernel
theorem dX5_take_0 : decode cX5_take 0 = .ok (.aload_n 0, 1) := by decide +kernel
theorem dX5_take_1 : decode cX5_take 1 = .ok (.getfield 7, 3) := by decide +kernel
theorem dX5_take_4 : decode cX5_take 4 = .ok (.iconst 0, 1) := by decide +kernel
theorem dX5_take_5 : decode cX5_take 5 = .ok (.iload_n 1, 1) := by decide +kernel
theorem dX5_take_6 : decode cX5_take 6 = .ok (.invokevirtual 13, 3) := by decide +kernel
theorem dX5_take_9 : decode cX5_take 9 = .ok (.ireturn, 1) := by decide +kernel
theorem dX5_clearRoomFor_0 : decode cX5_clearRoomFor 0 = .ok (.aload_n 0, 1) := by decide +kernel
theorem dX5_clearRoomFor_1 : decode cX5_clearRoomFor 1 = .ok (.invokevirtual 19, 3) := by decide +kernel
theorem dX5_clearRoomFor_4 : decode cX5_clearRoomFor 4 = .ok (.pop, 1) := by decide +kernel
theorem dX5_clearRoomFor_5 : decode cX5_clearRoomFor 5 = .ok (.return_, 1) := by decide +kernel
theorem dX5_gather_0 : decode cX5_gather 0 = .ok (.aload_n 0, 1) := by decide +kernel
theorem dX5_gather_1 : decode cX5_gather 1 = .ok (.dup, 1) := by decide +kernel
theorem dX5_gather_2 : decode cX5_gather 2 = .ok (.getfield 23, 3) := by decide +kernel
theorem dX5_gather_5 : decode cX5_gather 5 = .ok (.iconst 1, 1) := by decide +kernel
theorem dX5_gather_6 : decode cX5_gather 6 = .ok (.iadd, 1) := by decide +kernel
theorem dX5_gather_7 : decode cX5_gather 7 = .ok (.putfield 23, 3) := by decide +kernel
theorem dX5_gather_10 : decode cX5_gather 10 = .ok (.aload_n 0, 1) := by decide +kernel
theorem dX5_gather_11 : decode cX5_gather 11 = .ok (.invokevirtual 27, 3) := by decide +kernel
theorem dX5_gather_14 : decode cX5_gather 14 = .ok (.aload_n 0, 1) := by decide +kernel
theorem dX5_gather_15 : decode cX5_gather 15 = .ok (.iconst 0, 1) := by decide +kernel
theorem dX5_gather_16 : decode cX5_gather 16 = .ok (.invokevirtual 31, 3) := by decide +kernel
theorem dX5_gather_19 : decode cX5_gather 19 = .ok (.ireturn, 1) := by decide +kernel
theorem dX6_init_0 : decode cX6_init 0 = .ok (.aload_n 0, 1) := by decide +kernel
theorem dX6_init_1 : decode cX6_init 1 = .ok (.invokespecial 1, 3) := by decide +kernel
theorem dX6_init_4 : decode cX6_init 4 = .ok (.iconst 0, 1) := by decide +kernel
theorem dX6_init_5 : decode cX6_init 5 = .ok (.iload_n 2, 1) := by decide +kernel
theorem dX6_init_6 : decode cX6_init 6 = .ok (.invokestatic 7, 3) := by decide +kernel
theorem dX6_init_9 : decode cX6_init 9 = .ok (.istore_n 3, 1) := by decide +kernel
theorem dX6_init_10 : decode cX6_init 10 = .ok (.aload_n 0, 1) := by decide +kernel
theorem dX6_init_11 : decode cX6_init 11 = .ok (.iload_n 1, 1) := by decide +kernel
theorem dX6_init_12 : decode cX6_init 12 = .ok (.putfield 13, 3) := by decide +kernel
theorem dX6_init_15 : decode cX6_init 15 = .ok (.aload_n 0, 1) := by decide +kernel
theorem dX6_init_16 : decode cX6_init 16 = .ok (.iload_n 3, 1) := by decide +kernel
theorem dX6_init_17 : decode cX6_init 17 = .ok (.newarray .int, 2) := by decide +kernel
theorem dX6_init_19 : decode cX6_init 19 = .ok (.putfield 19, 3) := by decide +kernel
theorem dX6_init_22 : decode cX6_init 22 = .ok (.aload_n 0, 1) := by decide +kernel
theorem dX6_init_23 : decode cX6_init 23 = .ok (.iload_n 3, 1) := by decide +kernel
theorem dX6_init_24 : decode cX6_init 24 = .ok (.anewarray 14, 3) := by decide +kernel
theorem dX6_init_27 : decode cX6_init 27 = .ok (.putfield 23, 3) := by decide +kernel
theorem dX6_init_30 : decode cX6_init 30 = .ok (.aload_n 0, 1) := by decide +kernel
theorem dX6_init_31 : decode cX6_init 31 = .ok (.iconst 0, 1) := by decide +kernel
theorem dX6_init_32 : decode cX6_init 32 = .ok (.putfield 27, 3) := by decide +kernel
theorem dX6_init_35 : decode cX6_init 35 = .ok (.aload_n 0, 1) := by decide +kernel
theorem dX6_init_36 : decode cX6_init 36 = .ok (.iconst 0, 1) := by decide +kernel
theorem dX6_init_37 : decode cX6_init 37 = .ok (.putfield 30, 3) := by decide +kernel
theorem dX6_init_40 : decode cX6_init 40 = .ok (.aload_n 0, 1) := by decide +kernel
theorem dX6_init_41 : decode cX6_init 41 = .ok (.iconst 0, 1) := by decide +kernel
theorem dX6_init_42 : decode cX6_init 42 = .ok (.putfield 34, 3) := by decide +kernel
theorem dX6_init_45 : decode cX6_init 45 = .ok (.aload_n 0, 1) := by decide +kernel
theorem dX6_init_46 : decode cX6_init 46 = .ok (.iconst 0, 1) := by decide +kernel
theorem dX6_init_47 : decode cX6_init 47 = .ok (.putfield 37, 3) := by decide +kernel
theorem dX6_init_50 : decode cX6_init 50 = .ok (.aload_n 0, 1) := by decide +kernel
theorem dX6_init_51 : decode cX6_init 51 = .ok (.iconst 0, 1) := by decide +kernel
theorem dX6_init_52 : decode cX6_init 52 = .ok (.putfield 40, 3) := by decide +kernel
theorem dX6_init_55 : decode cX6_init 55 = .ok (.return_, 1) := by decide +kernel
theorem dX6_fields_0 : decode cX6_fields 0 = .ok (.aload_n 0, 1) := by decide +kernel
theorem dX6_fields_1 : decode cX6_fields 1 = .ok (.getfield 19, 3) := by decide +kernel
theorem dX6_fields_4 : decode cX6_fields 4 = .ok (.arraylength, 1) := by decide +kernel
theorem dX6_fields_5 : decode cX6_fields 5 = .ok (.ireturn, 1) := by decide +kernel
theorem dX6_size_0 : decode cX6_size 0 = .ok (.aload_n 0, 1) := by decide +kernel
theorem dX6_size_1 : decode cX6_size 1 = .ok (.getfield 19, 3) := by decide +kernel
theorem dX6_size_4 : decode cX6_size 4 = .ok (.arraylength, 1) := by decide +kernel
theorem dX6_size_5 : decode cX6_size 5 = .ok (.iconst 1, 1) := by decide +kernel
theorem dX6_size_6 : decode cX6_size 6 = .ok (.iadd, 1) := by decide +kernel
theorem dX6_size_7 : decode cX6_size 7 = .ok (.ireturn, 1) := by decide +kernel
theorem dX6_has_0 : decode cX6_has 0 = .ok (.iload_n 1, 1) := by decide +kernel
theorem dX6_has_1 : decode cX6_has 1 = .ok (.ifCond .lt 16, 3) := by decide +kernel
theorem dX6_has_4 : decode cX6_has 4 = .ok (.iload_n 1, 1) := by decide +kernel
theorem dX6_has_5 : decode cX6_has 5 = .ok (.aload_n 0, 1) := by decide +kernel
theorem dX6_has_6 : decode cX6_has 6 = .ok (.getfield 19, 3) := by decide +kernel
theorem dX6_has_9 : decode cX6_has 9 = .ok (.arraylength, 1) := by decide +kernel
theorem dX6_has_10 : decode cX6_has 10 = .ok (.if_icmp .ge 7, 3) := by decide +kernel
theorem dX6_has_13 : decode cX6_has 13 = .ok (.iconst 1, 1) := by decide +kernel
theorem dX6_has_14 : decode cX6_has 14 = .ok (.goto 4, 3) := by decide +kernel
theorem dX6_has_17 : decode cX6_has 17 = .ok (.iconst 0, 1) := by decide +kernel
theorem dX6_has_18 : decode cX6_has 18 = .ok (.ireturn, 1) := by decide +kernel
theorem dX6_numberOf_0 : decode cX6_numberOf 0 = .ok (.iload_n 1, 1) := by decide +kernel
theorem dX6_numberOf_1 : decode cX6_numberOf 1 = .ok (.ifCond .lt 21, 3) := by decide +kernel
theorem dX6_numberOf_4 : decode cX6_numberOf 4 = .ok (.iload_n 1, 1) := by decide +kernel
theorem dX6_numberOf_5 : decode cX6_numberOf 5 = .ok (.aload_n 0, 1) := by decide +kernel
theorem dX6_numberOf_6 : decode cX6_numberOf 6 = .ok (.getfield 19, 3) := by decide +kernel
theorem dX6_numberOf_9 : decode cX6_numberOf 9 = .ok (.arraylength, 1) := by decide +kernel
theorem dX6_numberOf_10 : decode cX6_numberOf 10 = .ok (.if_icmp .ge 12, 3) := by decide +kernel
theorem dX6_numberOf_13 : decode cX6_numberOf 13 = .ok (.aload_n 0, 1) := by decide +kernel
theorem dX6_numberOf_14 : decode cX6_numberOf 14 = .ok (.getfield 19, 3) := by decide +kernel
theorem dX6_numberOf_17 : decode cX6_numberOf 17 = .ok (.iload_n 1, 1) := by decide +kernel
theorem dX6_numberOf_18 : decode cX6_numberOf 18 = .ok (.iaload, 1) := by decide +kernel
theorem dX6_numberOf_19 : decode cX6_numberOf 19 = .ok (.goto 4, 3) := by decide +kernel
theorem dX6_numberOf_22 : decode cX6_numberOf 22 = .ok (.iconst 0, 1) := by decide +kernel
theorem dX6_numberOf_23 : decode cX6_numberOf 23 = .ok (.ireturn, 1) := by decide +kernel
theorem dX6_targetOf_0 : decode cX6_targetOf 0 = .ok (.iload_n 1, 1) := by decide +kernel
theorem dX6_targetOf_1 : decode cX6_targetOf 1 = .ok (.ifCond .lt 21, 3) := by decide +kernel
theorem dX6_targetOf_4 : decode cX6_targetOf 4 = .ok (.iload_n 1, 1) := by decide +kernel
theorem dX6_targetOf_5 : decode cX6_targetOf 5 = .ok (.aload_n 0, 1) := by decide +kernel
theorem dX6_targetOf_6 : decode cX6_targetOf 6 = .ok (.getfield 23, 3) := by decide +kernel
theorem dX6_targetOf_9 : decode cX6_targetOf 9 = .ok (.arraylength, 1) := by decide +kernel
theorem dX6_targetOf_10 : decode cX6_targetOf 10 = .ok (.if_icmp .ge 12, 3) := by decide +kernel
theorem dX6_targetOf_13 : decode cX6_targetOf 13 = .ok (.aload_n 0, 1) := by decide +kernel
theorem dX6_targetOf_14 : decode cX6_targetOf 14 = .ok (.getfield 23, 3) := by decide +kernel
theorem dX6_targetOf_17 : decode cX6_targetOf 17 = .ok (.iload_n 1, 1) := by decide +kernel
theorem dX6_targetOf_18 : decode cX6_targetOf 18 = .ok (.aaload, 1) := by decide +kernel
theorem dX6_targetOf_19 : decode cX6_targetOf 19 = .ok (.goto 4, 3) := by decide +kernel
theorem dX6_targetOf_22 : decode cX6_targetOf 22 = .ok (.aconst_null, 1) := by decide +kernel
theorem dX6_targetOf_23 : decode cX6_targetOf 23 = .ok (.areturn, 1) := by decide +kernel
theorem dX6_hold_0 : decode cX6_hold 0 = .ok (.aload_n 0, 1) := by decide +kernel
theorem dX6_hold_1 : decode cX6_hold 1 = .ok (.iload_n 1, 1) := by decide +kernel
theorem dX6_hold_2 : decode cX6_hold 2 = .ok (.invokevirtual 43, 3) := by decide +kernel
theorem dX6_hold_5 : decode cX6_hold 5 = .ok (.ifCond .eq 17, 3) := by decide +kernel
theorem dX6_hold_8 : decode cX6_hold 8 = .ok (.aload_n 0, 1) := by decide +kernel
theorem dX6_hold_9 : decode cX6_hold 9 = .ok (.getfield 19, 3) := by decide +kernel
theorem dX6_hold_12 : decode cX6_hold 12 = .ok (.iload_n 1, 1) := by decide +kernel
theorem dX6_hold_13 : decode cX6_hold 13 = .ok (.iload_n 2, 1) := by decide +kernel
theorem dX6_hold_14 : decode cX6_hold 14 = .ok (.iastore, 1) := by decide +kernel
theorem dX6_hold_15 : decode cX6_hold 15 = .ok (.aload_n 0, 1) := by decide +kernel
theorem dX6_hold_16 : decode cX6_hold 16 = .ok (.getfield 23, 3) := by decide +kernel
theorem dX6_hold_19 : decode cX6_hold 19 = .ok (.iload_n 1, 1) := by decide +kernel
theorem dX6_hold_20 : decode cX6_hold 20 = .ok (.aload_n 3, 1) := by decide +kernel
theorem dX6_hold_21 : decode cX6_hold 21 = .ok (.aastore, 1) := by decide +kernel
theorem dX6_hold_22 : decode cX6_hold 22 = .ok (.return_, 1) := by decide +kernel
theorem dX7_init_0 : decode cX7_init 0 = .ok (.aload_n 0, 1) := by decide +kernel
theorem dX7_init_1 : decode cX7_init 1 = .ok (.invokespecial 3, 3) := by decide +kernel
theorem dX7_init_4 : decode cX7_init 4 = .ok (.aload_n 0, 1) := by decide +kernel
theorem dX7_init_5 : decode cX7_init 5 = .ok (.iconst 0, 1) := by decide +kernel
theorem dX7_init_6 : decode cX7_init 6 = .ok (.iload_n 1, 1) := by decide +kernel
theorem dX7_init_7 : decode cX7_init 7 = .ok (.invokestatic 9, 3) := by decide +kernel
theorem dX7_init_10 : decode cX7_init 10 = .ok (.anewarray 15, 3) := by decide +kernel
theorem dX7_init_13 : decode cX7_init 13 = .ok (.putfield 17, 3) := by decide +kernel
theorem dX7_init_16 : decode cX7_init 16 = .ok (.aload_n 0, 1) := by decide +kernel
theorem dX7_init_17 : decode cX7_init 17 = .ok (.iconst 0, 1) := by decide +kernel
theorem dX7_init_18 : decode cX7_init 18 = .ok (.putfield 23, 3) := by decide +kernel
theorem dX7_init_21 : decode cX7_init 21 = .ok (.aload_n 0, 1) := by decide +kernel
theorem dX7_init_22 : decode cX7_init 22 = .ok (.iconst 0, 1) := by decide +kernel
theorem dX7_init_23 : decode cX7_init 23 = .ok (.putfield 27, 3) := by decide +kernel
theorem dX7_init_26 : decode cX7_init 26 = .ok (.aload_n 0, 1) := by decide +kernel
theorem dX7_init_27 : decode cX7_init 27 = .ok (.iconst 0, 1) := by decide +kernel
theorem dX7_init_28 : decode cX7_init 28 = .ok (.putfield 30, 3) := by decide +kernel
theorem dX7_init_31 : decode cX7_init 31 = .ok (.return_, 1) := by decide +kernel
theorem dX7_begin_0 : decode cX7_begin 0 = .ok (.aload_n 0, 1) := by decide +kernel
theorem dX7_begin_1 : decode cX7_begin 1 = .ok (.dup, 1) := by decide +kernel
theorem dX7_begin_2 : decode cX7_begin 2 = .ok (.getfield 27, 3) := by decide +kernel
theorem dX7_begin_5 : decode cX7_begin 5 = .ok (.iconst 1, 1) := by decide +kernel
theorem dX7_begin_6 : decode cX7_begin 6 = .ok (.iadd, 1) := by decide +kernel
theorem dX7_begin_7 : decode cX7_begin 7 = .ok (.putfield 27, 3) := by decide +kernel
theorem dX7_begin_10 : decode cX7_begin 10 = .ok (.aload_n 0, 1) := by decide +kernel
theorem dX7_begin_11 : decode cX7_begin 11 = .ok (.iconst 0, 1) := by decide +kernel
theorem dX7_begin_12 : decode cX7_begin 12 = .ok (.putfield 23, 3) := by decide +kernel
theorem dX7_begin_15 : decode cX7_begin 15 = .ok (.aload_n 0, 1) := by decide +kernel
theorem dX7_begin_16 : decode cX7_begin 16 = .ok (.iload_n 1, 1) := by decide +kernel
theorem dX7_begin_17 : decode cX7_begin 17 = .ok (.putfield 30, 3) := by decide +kernel
theorem dX7_begin_20 : decode cX7_begin 20 = .ok (.return_, 1) := by decide +kernel
theorem dX7_meet_0 : decode cX7_meet 0 = .ok (.aload_n 1, 1) := by decide +kernel
theorem dX7_meet_1 : decode cX7_meet 1 = .ok (.ifnull 25, 3) := by decide +kernel
theorem dX7_meet_4 : decode cX7_meet 4 = .ok (.aload_n 1, 1) := by decide +kernel
theorem dX7_meet_5 : decode cX7_meet 5 = .ok (.getfield 33, 3) := by decide +kernel
theorem dX7_meet_8 : decode cX7_meet 8 = .ok (.aload_n 0, 1) := by decide +kernel
theorem dX7_meet_9 : decode cX7_meet 9 = .ok (.getfield 30, 3) := by decide +kernel
theorem dX7_meet_12 : decode cX7_meet 12 = .ok (.if_icmp .ge 14, 3) := by decide +kernel
theorem dX7_meet_15 : decode cX7_meet 15 = .ok (.aload_n 1, 1) := by decide +kernel
theorem dX7_meet_16 : decode cX7_meet 16 = .ok (.getfield 36, 3) := by decide +kernel
theorem dX7_meet_19 : decode cX7_meet 19 = .ok (.aload_n 0, 1) := by decide +kernel
theorem dX7_meet_20 : decode cX7_meet 20 = .ok (.getfield 27, 3) := by decide +kernel
theorem dX7_meet_23 : decode cX7_meet 23 = .ok (.if_icmp .ne 4, 3) := by decide +kernel
theorem dX7_meet_26 : decode cX7_meet 26 = .ok (.return_, 1) := by decide +kernel
theorem dX7_meet_27 : decode cX7_meet 27 = .ok (.aload_n 0, 1) := by decide +kernel
theorem dX7_meet_28 : decode cX7_meet 28 = .ok (.getfield 23, 3) := by decide +kernel
theorem dX7_meet_31 : decode cX7_meet 31 = .ok (.ifCond .lt 51, 3) := by decide +kernel
theorem dX7_meet_34 : decode cX7_meet 34 = .ok (.aload_n 0, 1) := by decide +kernel
theorem dX7_meet_35 : decode cX7_meet 35 = .ok (.getfield 23, 3) := by decide +kernel
theorem dX7_meet_38 : decode cX7_meet 38 = .ok (.aload_n 0, 1) := by decide +kernel
theorem dX7_meet_39 : decode cX7_meet 39 = .ok (.getfield 17, 3) := by decide +kernel
theorem dX7_meet_42 : decode cX7_meet 42 = .ok (.arraylength, 1) := by decide +kernel
theorem dX7_meet_43 : decode cX7_meet 43 = .ok (.if_icmp .ge 39, 3) := by decide +kernel
theorem dX7_meet_46 : decode cX7_meet 46 = .ok (.aload_n 1, 1) := by decide +kernel
theorem dX7_meet_47 : decode cX7_meet 47 = .ok (.aload_n 0, 1) := by decide +kernel
theorem dX7_meet_48 : decode cX7_meet 48 = .ok (.getfield 27, 3) := by decide +kernel
theorem dX7_meet_51 : decode cX7_meet 51 = .ok (.putfield 36, 3) := by decide +kernel
theorem dX7_meet_54 : decode cX7_meet 54 = .ok (.aload_n 1, 1) := by decide +kernel
theorem dX7_meet_55 : decode cX7_meet 55 = .ok (.aload_n 0, 1) := by decide +kernel
theorem dX7_meet_56 : decode cX7_meet 56 = .ok (.getfield 23, 3) := by decide +kernel
theorem dX7_meet_59 : decode cX7_meet 59 = .ok (.putfield 39, 3) := by decide +kernel
theorem dX7_meet_62 : decode cX7_meet 62 = .ok (.aload_n 0, 1) := by decide +kernel
theorem dX7_meet_63 : decode cX7_meet 63 = .ok (.getfield 17, 3) := by decide +kernel
theorem dX7_meet_66 : decode cX7_meet 66 = .ok (.aload_n 0, 1) := by decide +kernel
theorem dX7_meet_67 : decode cX7_meet 67 = .ok (.getfield 23, 3) := by decide +kernel
theorem dX7_meet_70 : decode cX7_meet 70 = .ok (.aload_n 1, 1) := by decide +kernel
theorem dX7_meet_71 : decode cX7_meet 71 = .ok (.aastore, 1) := by decide +kernel
theorem dX7_meet_72 : decode cX7_meet 72 = .ok (.aload_n 0, 1) := by decide +kernel
theorem dX7_meet_73 : decode cX7_meet 73 = .ok (.dup, 1) := by decide +kernel
theorem dX7_meet_74 : decode cX7_meet 74 = .ok (.getfield 23, 3) := by decide +kernel
theorem dX7_meet_77 : decode cX7_meet 77 = .ok (.iconst 1, 1) := by decide +kernel
theorem dX7_meet_78 : decode cX7_meet 78 = .ok (.iadd, 1) := by decide +kernel
theorem dX7_meet_79 : decode cX7_meet 79 = .ok (.putfield 23, 3) := by decide +kernel
theorem dX7_meet_82 : decode cX7_meet 82 = .ok (.return_, 1) := by decide +kernel
theorem dX7_meetTargetsOf_0 : decode cX7_meetTargetsOf 0 = .ok (.aload_n 1, 1) := by decide +kernel
theorem dX7_meetTargetsOf_1 : decode cX7_meetTargetsOf 1 = .ok (.ifnonnull 4, 3) := by decide +kernel
theorem dX7_meetTargetsOf_4 : decode cX7_meetTargetsOf 4 = .ok (.return_, 1) := by decide +kernel
theorem dX7_meetTargetsOf_5 : decode cX7_meetTargetsOf 5 = .ok (.iconst 0, 1) := by decide +kernel
theorem dX7_meetTargetsOf_6 : decode cX7_meetTargetsOf 6 = .ok (.istore_n 2, 1) := by decide +kernel
theorem dX7_meetTargetsOf_7 : decode cX7_meetTargetsOf 7 = .ok (.iload_n 2, 1) := by decide +kernel
theorem dX7_meetTargetsOf_8 : decode cX7_meetTargetsOf 8 = .ok (.aload_n 1, 1) := by decide +kernel
theorem dX7_meetTargetsOf_9 : decode cX7_meetTargetsOf 9 = .ok (.invokevirtual 42, 3) := by decide +kernel
theorem dX7_meetTargetsOf_12 : decode cX7_meetTargetsOf 12 = .ok (.if_icmp .ge 18, 3) := by decide +kernel
theorem dX7_meetTargetsOf_15 : decode cX7_meetTargetsOf 15 = .ok (.aload_n 0, 1) := by decide +kernel
theorem dX7_meetTargetsOf_16 : decode cX7_meetTargetsOf 16 = .ok (.aload_n 1, 1) := by decide +kernel
theorem dX7_meetTargetsOf_17 : decode cX7_meetTargetsOf 17 = .ok (.iload_n 2, 1) := by decide +kernel
theorem dX7_meetTargetsOf_18 : decode cX7_meetTargetsOf 18 = .ok (.invokevirtual 46, 3) := by decide +kernel
theorem dX7_meetTargetsOf_21 : decode cX7_meetTargetsOf 21 = .ok (.invokevirtual 50, 3) := by decide +kernel
theorem dX7_meetTargetsOf_24 : decode cX7_meetTargetsOf 24 = .ok (.iinc 2 1, 3) := by decide +kernel
theorem dX7_meetTargetsOf_27 : decode cX7_meetTargetsOf 27 = .ok (.goto (-20), 3) := by decide +kernel
theorem dX7_meetTargetsOf_30 : decode cX7_meetTargetsOf 30 = .ok (.return_, 1) := by decide +kernel
theorem dX7_meetRoots_0 : decode cX7_meetRoots 0 = .ok (.iconst 0, 1) := by decide +kernel
theorem dX7_meetRoots_1 : decode cX7_meetRoots 1 = .ok (.istore_n 2, 1) := by decide +kernel
theorem dX7_meetRoots_2 : decode cX7_meetRoots 2 = .ok (.iload_n 2, 1) := by decide +kernel
theorem dX7_meetRoots_3 : decode cX7_meetRoots 3 = .ok (.bipush 16, 2) := by decide +kernel
theorem dX7_meetRoots_5 : decode cX7_meetRoots 5 = .ok (.if_icmp .ge 18, 3) := by decide +kernel
theorem dX7_meetRoots_8 : decode cX7_meetRoots 8 = .ok (.aload_n 0, 1) := by decide +kernel
theorem dX7_meetRoots_9 : decode cX7_meetRoots 9 = .ok (.aload_n 1, 1) := by decide +kernel
theorem dX7_meetRoots_10 : decode cX7_meetRoots 10 = .ok (.iload_n 2, 1) := by decide +kernel
theorem dX7_meetRoots_11 : decode cX7_meetRoots 11 = .ok (.invokevirtual 54, 3) := by decide +kernel
theorem dX7_meetRoots_14 : decode cX7_meetRoots 14 = .ok (.invokevirtual 50, 3) := by decide +kernel
theorem dX7_meetRoots_17 : decode cX7_meetRoots 17 = .ok (.iinc 2 1, 3) := by decide +kernel
theorem dX7_meetRoots_20 : decode cX7_meetRoots 20 = .ok (.goto (-18), 3) := by decide +kernel
theorem dX7_meetRoots_23 : decode cX7_meetRoots 23 = .ok (.return_, 1) := by decide +kernel
theorem dX7_follow_0 : decode cX7_follow 0 = .ok (.iconst 0, 1) := by decide +kernel
theorem dX7_follow_1 : decode cX7_follow 1 = .ok (.istore_n 1, 1) := by decide +kernel
theorem dX7_follow_2 : decode cX7_follow 2 = .ok (.iload_n 1, 1) := by decide +kernel
theorem dX7_follow_3 : decode cX7_follow 3 = .ok (.aload_n 0, 1) := by decide +kernel
theorem dX7_follow_4 : decode cX7_follow 4 = .ok (.getfield 23, 3) := by decide +kernel
theorem dX7_follow_7 : decode cX7_follow 7 = .ok (.if_icmp .ge 28, 3) := by decide +kernel
theorem dX7_follow_10 : decode cX7_follow 10 = .ok (.iload_n 1, 1) := by decide +kernel
theorem dX7_follow_11 : decode cX7_follow 11 = .ok (.aload_n 0, 1) := by decide +kernel
theorem dX7_follow_12 : decode cX7_follow 12 = .ok (.getfield 17, 3) := by decide +kernel
theorem dX7_follow_15 : decode cX7_follow 15 = .ok (.arraylength, 1) := by decide +kernel
theorem dX7_follow_16 : decode cX7_follow 16 = .ok (.if_icmp .ge 19, 3) := by decide +kernel
theorem dX7_follow_19 : decode cX7_follow 19 = .ok (.aload_n 0, 1) := by decide +kernel
theorem dX7_follow_20 : decode cX7_follow 20 = .ok (.aload_n 0, 1) := by decide +kernel
theorem dX7_follow_21 : decode cX7_follow 21 = .ok (.getfield 17, 3) := by decide +kernel
theorem dX7_follow_24 : decode cX7_follow 24 = .ok (.iload_n 1, 1) := by decide +kernel
theorem dX7_follow_25 : decode cX7_follow 25 = .ok (.aaload, 1) := by decide +kernel
theorem dX7_follow_26 : decode cX7_follow 26 = .ok (.invokevirtual 59, 3) := by decide +kernel
theorem dX7_follow_29 : decode cX7_follow 29 = .ok (.iinc 1 1, 3) := by decide +kernel
theorem dX7_follow_32 : decode cX7_follow 32 = .ok (.goto (-30), 3) := by decide +kernel
theorem dX7_follow_35 : decode cX7_follow 35 = .ok (.return_, 1) := by decide +kernel
theorem dX7_hasMet_0 : decode cX7_hasMet 0 = .ok (.aload_n 1, 1) := by decide +kernel
theorem dX7_hasMet_1 : decode cX7_hasMet 1 = .ok (.getfield 36, 3) := by decide +kernel
theorem dX7_hasMet_4 : decode cX7_hasMet 4 = .ok (.aload_n 0, 1) := by decide +kernel
theorem dX7_hasMet_5 : decode cX7_hasMet 5 = .ok (.getfield 27, 3) := by decide +kernel
theorem dX7_hasMet_8 : decode cX7_hasMet 8 = .ok (.if_icmp .ne 7, 3) := by decide +kernel
theorem dX7_hasMet_11 : decode cX7_hasMet 11 = .ok (.iconst 1, 1) := by decide +kernel
theorem dX7_hasMet_12 : decode cX7_hasMet 12 = .ok (.goto 4, 3) := by decide +kernel
theorem dX7_hasMet_15 : decode cX7_hasMet 15 = .ok (.iconst 0, 1) := by decide +kernel
theorem dX7_hasMet_16 : decode cX7_hasMet 16 = .ok (.ireturn, 1) := by decide +kernel
theorem dX7_size_0 : decode cX7_size 0 = .ok (.aload_n 0, 1) := by decide +kernel
theorem dX7_size_1 : decode cX7_size 1 = .ok (.getfield 23, 3) := by decide +kernel
theorem dX7_size_4 : decode cX7_size 4 = .ok (.ireturn, 1) := by decide +kernel
theorem dX7_thingOf_0 : decode cX7_thingOf 0 = .ok (.iload_n 1, 1) := by decide +kernel
theorem dX7_thingOf_1 : decode cX7_thingOf 1 = .ok (.ifCond .lt 29, 3) := by decide +kernel
theorem dX7_thingOf_4 : decode cX7_thingOf 4 = .ok (.iload_n 1, 1) := by decide +kernel
theorem dX7_thingOf_5 : decode cX7_thingOf 5 = .ok (.aload_n 0, 1) := by decide +kernel
theorem dX7_thingOf_6 : decode cX7_thingOf 6 = .ok (.getfield 23, 3) := by decide +kernel
theorem dX7_thingOf_9 : decode cX7_thingOf 9 = .ok (.if_icmp .ge 21, 3) := by decide +kernel
theorem dX7_thingOf_12 : decode cX7_thingOf 12 = .ok (.iload_n 1, 1) := by decide +kernel
theorem dX7_thingOf_13 : decode cX7_thingOf 13 = .ok (.aload_n 0, 1) := by decide +kernel
theorem dX7_thingOf_14 : decode cX7_thingOf 14 = .ok (.getfield 17, 3) := by decide +kernel
theorem dX7_thingOf_17 : decode cX7_thingOf 17 = .ok (.arraylength, 1) := by decide +kernel
theorem dX7_thingOf_18 : decode cX7_thingOf 18 = .ok (.if_icmp .ge 12, 3) := by decide +kernel
theorem dX7_thingOf_21 : decode cX7_thingOf 21 = .ok (.aload_n 0, 1) := by decide +kernel
theorem dX7_thingOf_22 : decode cX7_thingOf 22 = .ok (.getfield 17, 3) := by decide +kernel
theorem dX7_thingOf_25 : decode cX7_thingOf 25 = .ok (.iload_n 1, 1) := by decide +kernel
theorem dX7_thingOf_26 : decode cX7_thingOf 26 = .ok (.aaload, 1) := by decide +kernel
