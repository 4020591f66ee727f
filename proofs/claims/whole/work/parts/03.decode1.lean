theorem dX7_thingOf_27 : decode cX7_thingOf 27 = .ok (.goto 4, 3) := by decide +kernel
theorem dX7_thingOf_30 : decode cX7_thingOf 30 = .ok (.aconst_null, 1) := by decide +kernel
theorem dX7_thingOf_31 : decode cX7_thingOf 31 = .ok (.areturn, 1) := by decide +kernel
theorem dX8_init_0 : decode cX8_init 0 = .ok (.aload_n 0, 1) := by decide +kernel
theorem dX8_init_1 : decode cX8_init 1 = .ok (.invokespecial 3, 3) := by decide +kernel
theorem dX8_init_4 : decode cX8_init 4 = .ok (.aload_n 0, 1) := by decide +kernel
theorem dX8_init_5 : decode cX8_init 5 = .ok (.iconst 0, 1) := by decide +kernel
theorem dX8_init_6 : decode cX8_init 6 = .ok (.iload_n 1, 1) := by decide +kernel
theorem dX8_init_7 : decode cX8_init 7 = .ok (.invokestatic 9, 3) := by decide +kernel
theorem dX8_init_10 : decode cX8_init 10 = .ok (.anewarray 15, 3) := by decide +kernel
theorem dX8_init_13 : decode cX8_init 13 = .ok (.putfield 17, 3) := by decide +kernel
theorem dX8_init_16 : decode cX8_init 16 = .ok (.return_, 1) := by decide +kernel
theorem dX8_length_0 : decode cX8_length 0 = .ok (.aload_n 0, 1) := by decide +kernel
theorem dX8_length_1 : decode cX8_length 1 = .ok (.getfield 17, 3) := by decide +kernel
theorem dX8_length_4 : decode cX8_length 4 = .ok (.arraylength, 1) := by decide +kernel
theorem dX8_length_5 : decode cX8_length 5 = .ok (.ireturn, 1) := by decide +kernel
theorem dX8_lyingAt_0 : decode cX8_lyingAt 0 = .ok (.iload_n 1, 1) := by decide +kernel
theorem dX8_lyingAt_1 : decode cX8_lyingAt 1 = .ok (.ifCond .lt 21, 3) := by decide +kernel
theorem dX8_lyingAt_4 : decode cX8_lyingAt 4 = .ok (.iload_n 1, 1) := by decide +kernel
theorem dX8_lyingAt_5 : decode cX8_lyingAt 5 = .ok (.aload_n 0, 1) := by decide +kernel
theorem dX8_lyingAt_6 : decode cX8_lyingAt 6 = .ok (.getfield 17, 3) := by decide +kernel
theorem dX8_lyingAt_9 : decode cX8_lyingAt 9 = .ok (.arraylength, 1) := by decide +kernel
theorem dX8_lyingAt_10 : decode cX8_lyingAt 10 = .ok (.if_icmp .ge 12, 3) := by decide +kernel
theorem dX8_lyingAt_13 : decode cX8_lyingAt 13 = .ok (.aload_n 0, 1) := by decide +kernel
theorem dX8_lyingAt_14 : decode cX8_lyingAt 14 = .ok (.getfield 17, 3) := by decide +kernel
theorem dX8_lyingAt_17 : decode cX8_lyingAt 17 = .ok (.iload_n 1, 1) := by decide +kernel
theorem dX8_lyingAt_18 : decode cX8_lyingAt 18 = .ok (.aaload, 1) := by decide +kernel
theorem dX8_lyingAt_19 : decode cX8_lyingAt 19 = .ok (.goto 4, 3) := by decide +kernel
theorem dX8_lyingAt_22 : decode cX8_lyingAt 22 = .ok (.aconst_null, 1) := by decide +kernel
theorem dX8_lyingAt_23 : decode cX8_lyingAt 23 = .ok (.areturn, 1) := by decide +kernel
theorem dX8_beginningAt_0 : decode cX8_beginningAt 0 = .ok (.aload_n 0, 1) := by decide +kernel
theorem dX8_beginningAt_1 : decode cX8_beginningAt 1 = .ok (.iload_n 1, 1) := by decide +kernel
theorem dX8_beginningAt_2 : decode cX8_beginningAt 2 = .ok (.invokevirtual 23, 3) := by decide +kernel
theorem dX8_beginningAt_5 : decode cX8_beginningAt 5 = .ok (.astore_n 2, 1) := by decide +kernel
theorem dX8_beginningAt_6 : decode cX8_beginningAt 6 = .ok (.aload_n 2, 1) := by decide +kernel
theorem dX8_beginningAt_7 : decode cX8_beginningAt 7 = .ok (.ifnull 15, 3) := by decide +kernel
theorem dX8_beginningAt_10 : decode cX8_beginningAt 10 = .ok (.aload_n 2, 1) := by decide +kernel
theorem dX8_beginningAt_11 : decode cX8_beginningAt 11 = .ok (.getfield 27, 3) := by decide +kernel
theorem dX8_beginningAt_14 : decode cX8_beginningAt 14 = .ok (.iload_n 1, 1) := by decide +kernel
theorem dX8_beginningAt_15 : decode cX8_beginningAt 15 = .ok (.if_icmp .ne 7, 3) := by decide +kernel
theorem dX8_beginningAt_18 : decode cX8_beginningAt 18 = .ok (.aload_n 2, 1) := by decide +kernel
theorem dX8_beginningAt_19 : decode cX8_beginningAt 19 = .ok (.goto 4, 3) := by decide +kernel
theorem dX8_beginningAt_22 : decode cX8_beginningAt 22 = .ok (.aconst_null, 1) := by decide +kernel
theorem dX8_beginningAt_23 : decode cX8_beginningAt 23 = .ok (.areturn, 1) := by decide +kernel
theorem dX8_put_0 : decode cX8_put 0 = .ok (.aload_n 1, 1) := by decide +kernel
theorem dX8_put_1 : decode cX8_put 1 = .ok (.iload_n 2, 1) := by decide +kernel
theorem dX8_put_2 : decode cX8_put 2 = .ok (.putfield 27, 3) := by decide +kernel
theorem dX8_put_5 : decode cX8_put 5 = .ok (.aload_n 0, 1) := by decide +kernel
theorem dX8_put_6 : decode cX8_put 6 = .ok (.iload_n 2, 1) := by decide +kernel
theorem dX8_put_7 : decode cX8_put 7 = .ok (.aload_n 1, 1) := by decide +kernel
theorem dX8_put_8 : decode cX8_put 8 = .ok (.invokevirtual 31, 3) := by decide +kernel
theorem dX8_put_11 : decode cX8_put 11 = .ok (.aload_n 1, 1) := by decide +kernel
theorem dX8_put_12 : decode cX8_put 12 = .ok (.invokevirtual 35, 3) := by decide +kernel
theorem dX8_put_15 : decode cX8_put 15 = .ok (.return_, 1) := by decide +kernel
theorem dX8_fill_0 : decode cX8_fill 0 = .ok (.iconst 0, 1) := by decide +kernel
theorem dX8_fill_1 : decode cX8_fill 1 = .ok (.iload_n 1, 1) := by decide +kernel
theorem dX8_fill_2 : decode cX8_fill 2 = .ok (.invokestatic 9, 3) := by decide +kernel
theorem dX8_fill_5 : decode cX8_fill 5 = .ok (.istore 4, 2) := by decide +kernel
theorem dX8_fill_7 : decode cX8_fill 7 = .ok (.aload_n 0, 1) := by decide +kernel
theorem dX8_fill_8 : decode cX8_fill 8 = .ok (.getfield 17, 3) := by decide +kernel
theorem dX8_fill_11 : decode cX8_fill 11 = .ok (.arraylength, 1) := by decide +kernel
theorem dX8_fill_12 : decode cX8_fill 12 = .ok (.iload 4, 2) := by decide +kernel
theorem dX8_fill_14 : decode cX8_fill 14 = .ok (.iload_n 2, 1) := by decide +kernel
theorem dX8_fill_15 : decode cX8_fill 15 = .ok (.iadd, 1) := by decide +kernel
theorem dX8_fill_16 : decode cX8_fill 16 = .ok (.invokestatic 39, 3) := by decide +kernel
theorem dX8_fill_19 : decode cX8_fill 19 = .ok (.istore 5, 2) := by decide +kernel
theorem dX8_fill_21 : decode cX8_fill 21 = .ok (.iload 4, 2) := by decide +kernel
theorem dX8_fill_23 : decode cX8_fill 23 = .ok (.istore 6, 2) := by decide +kernel
theorem dX8_fill_25 : decode cX8_fill 25 = .ok (.iload 6, 2) := by decide +kernel
theorem dX8_fill_27 : decode cX8_fill 27 = .ok (.iload 5, 2) := by decide +kernel
theorem dX8_fill_29 : decode cX8_fill 29 = .ok (.if_icmp .ge 17, 3) := by decide +kernel
theorem dX8_fill_32 : decode cX8_fill 32 = .ok (.aload_n 0, 1) := by decide +kernel
theorem dX8_fill_33 : decode cX8_fill 33 = .ok (.getfield 17, 3) := by decide +kernel
theorem dX8_fill_36 : decode cX8_fill 36 = .ok (.iload 6, 2) := by decide +kernel
theorem dX8_fill_38 : decode cX8_fill 38 = .ok (.aload_n 3, 1) := by decide +kernel
theorem dX8_fill_39 : decode cX8_fill 39 = .ok (.aastore, 1) := by decide +kernel
theorem dX8_fill_40 : decode cX8_fill 40 = .ok (.iinc 6 1, 3) := by decide +kernel
theorem dX8_fill_43 : decode cX8_fill 43 = .ok (.goto (-18), 3) := by decide +kernel
theorem dX8_fill_46 : decode cX8_fill 46 = .ok (.return_, 1) := by decide +kernel
theorem dX8_gapFrom_0 : decode cX8_gapFrom 0 = .ok (.iconst 0, 1) := by decide +kernel
theorem dX8_gapFrom_1 : decode cX8_gapFrom 1 = .ok (.istore_n 3, 1) := by decide +kernel
theorem dX8_gapFrom_2 : decode cX8_gapFrom 2 = .ok (.iconst 0, 1) := by decide +kernel
theorem dX8_gapFrom_3 : decode cX8_gapFrom 3 = .ok (.iload_n 1, 1) := by decide +kernel
theorem dX8_gapFrom_4 : decode cX8_gapFrom 4 = .ok (.invokestatic 9, 3) := by decide +kernel
theorem dX8_gapFrom_7 : decode cX8_gapFrom 7 = .ok (.istore 4, 2) := by decide +kernel
theorem dX8_gapFrom_9 : decode cX8_gapFrom 9 = .ok (.iload 4, 2) := by decide +kernel
theorem dX8_gapFrom_11 : decode cX8_gapFrom 11 = .ok (.aload_n 0, 1) := by decide +kernel
theorem dX8_gapFrom_12 : decode cX8_gapFrom 12 = .ok (.getfield 17, 3) := by decide +kernel
theorem dX8_gapFrom_15 : decode cX8_gapFrom 15 = .ok (.arraylength, 1) := by decide +kernel
theorem dX8_gapFrom_16 : decode cX8_gapFrom 16 = .ok (.if_icmp .ge 39, 3) := by decide +kernel
theorem dX8_gapFrom_19 : decode cX8_gapFrom 19 = .ok (.aload_n 0, 1) := by decide +kernel
theorem dX8_gapFrom_20 : decode cX8_gapFrom 20 = .ok (.getfield 17, 3) := by decide +kernel
theorem dX8_gapFrom_23 : decode cX8_gapFrom 23 = .ok (.iload 4, 2) := by decide +kernel
theorem dX8_gapFrom_25 : decode cX8_gapFrom 25 = .ok (.aaload, 1) := by decide +kernel
theorem dX8_gapFrom_26 : decode cX8_gapFrom 26 = .ok (.ifnonnull 9, 3) := by decide +kernel
theorem dX8_gapFrom_29 : decode cX8_gapFrom 29 = .ok (.iload_n 3, 1) := by decide +kernel
theorem dX8_gapFrom_30 : decode cX8_gapFrom 30 = .ok (.iconst 1, 1) := by decide +kernel
theorem dX8_gapFrom_31 : decode cX8_gapFrom 31 = .ok (.iadd, 1) := by decide +kernel
theorem dX8_gapFrom_32 : decode cX8_gapFrom 32 = .ok (.goto 4, 3) := by decide +kernel
theorem dX8_gapFrom_35 : decode cX8_gapFrom 35 = .ok (.iconst 0, 1) := by decide +kernel
theorem dX8_gapFrom_36 : decode cX8_gapFrom 36 = .ok (.istore_n 3, 1) := by decide +kernel
theorem dX8_gapFrom_37 : decode cX8_gapFrom 37 = .ok (.iload_n 3, 1) := by decide +kernel
theorem dX8_gapFrom_38 : decode cX8_gapFrom 38 = .ok (.iload_n 2, 1) := by decide +kernel
theorem dX8_gapFrom_39 : decode cX8_gapFrom 39 = .ok (.if_icmp .ne 10, 3) := by decide +kernel
theorem dX8_gapFrom_42 : decode cX8_gapFrom 42 = .ok (.iload 4, 2) := by decide +kernel
theorem dX8_gapFrom_44 : decode cX8_gapFrom 44 = .ok (.iload_n 2, 1) := by decide +kernel
theorem dX8_gapFrom_45 : decode cX8_gapFrom 45 = .ok (.isub, 1) := by decide +kernel
theorem dX8_gapFrom_46 : decode cX8_gapFrom 46 = .ok (.iconst 1, 1) := by decide +kernel
theorem dX8_gapFrom_47 : decode cX8_gapFrom 47 = .ok (.iadd, 1) := by decide +kernel
theorem dX8_gapFrom_48 : decode cX8_gapFrom 48 = .ok (.ireturn, 1) := by decide +kernel
theorem dX8_gapFrom_49 : decode cX8_gapFrom 49 = .ok (.iinc 4 1, 3) := by decide +kernel
theorem dX8_gapFrom_52 : decode cX8_gapFrom 52 = .ok (.goto (-43), 3) := by decide +kernel
theorem dX8_gapFrom_55 : decode cX8_gapFrom 55 = .ok (.iconst (-1), 1) := by decide +kernel
theorem dX8_gapFrom_56 : decode cX8_gapFrom 56 = .ok (.ireturn, 1) := by decide +kernel
theorem dX8_thingsBelow_0 : decode cX8_thingsBelow 0 = .ok (.iconst 0, 1) := by decide +kernel
theorem dX8_thingsBelow_1 : decode cX8_thingsBelow 1 = .ok (.istore_n 2, 1) := by decide +kernel
theorem dX8_thingsBelow_2 : decode cX8_thingsBelow 2 = .ok (.iconst 0, 1) := by decide +kernel
theorem dX8_thingsBelow_3 : decode cX8_thingsBelow 3 = .ok (.istore_n 3, 1) := by decide +kernel
theorem dX8_thingsBelow_4 : decode cX8_thingsBelow 4 = .ok (.iload_n 3, 1) := by decide +kernel
theorem dX8_thingsBelow_5 : decode cX8_thingsBelow 5 = .ok (.iload_n 1, 1) := by decide +kernel
theorem dX8_thingsBelow_6 : decode cX8_thingsBelow 6 = .ok (.if_icmp .ge 29, 3) := by decide +kernel
theorem dX8_thingsBelow_9 : decode cX8_thingsBelow 9 = .ok (.iload_n 3, 1) := by decide +kernel
theorem dX8_thingsBelow_10 : decode cX8_thingsBelow 10 = .ok (.aload_n 0, 1) := by decide +kernel
theorem dX8_thingsBelow_11 : decode cX8_thingsBelow 11 = .ok (.getfield 17, 3) := by decide +kernel
theorem dX8_thingsBelow_14 : decode cX8_thingsBelow 14 = .ok (.arraylength, 1) := by decide +kernel
theorem dX8_thingsBelow_15 : decode cX8_thingsBelow 15 = .ok (.if_icmp .ge 20, 3) := by decide +kernel
theorem dX8_thingsBelow_18 : decode cX8_thingsBelow 18 = .ok (.aload_n 0, 1) := by decide +kernel
theorem dX8_thingsBelow_19 : decode cX8_thingsBelow 19 = .ok (.iload_n 3, 1) := by decide +kernel
theorem dX8_thingsBelow_20 : decode cX8_thingsBelow 20 = .ok (.invokevirtual 42, 3) := by decide +kernel
theorem dX8_thingsBelow_23 : decode cX8_thingsBelow 23 = .ok (.ifnull 6, 3) := by decide +kernel
theorem dX8_thingsBelow_26 : decode cX8_thingsBelow 26 = .ok (.iinc 2 1, 3) := by decide +kernel
theorem dX8_thingsBelow_29 : decode cX8_thingsBelow 29 = .ok (.iinc 3 1, 3) := by decide +kernel
theorem dX8_thingsBelow_32 : decode cX8_thingsBelow 32 = .ok (.goto (-28), 3) := by decide +kernel
theorem dX8_thingsBelow_35 : decode cX8_thingsBelow 35 = .ok (.iload_n 2, 1) := by decide +kernel
theorem dX8_thingsBelow_36 : decode cX8_thingsBelow 36 = .ok (.ireturn, 1) := by decide +kernel
theorem dX8_taken_0 : decode cX8_taken 0 = .ok (.iconst 0, 1) := by decide +kernel
theorem dX8_taken_1 : decode cX8_taken 1 = .ok (.istore_n 1, 1) := by decide +kernel
theorem dX8_taken_2 : decode cX8_taken 2 = .ok (.iconst 0, 1) := by decide +kernel
theorem dX8_taken_3 : decode cX8_taken 3 = .ok (.istore_n 2, 1) := by decide +kernel
theorem dX8_taken_4 : decode cX8_taken 4 = .ok (.iload_n 2, 1) := by decide +kernel
theorem dX8_taken_5 : decode cX8_taken 5 = .ok (.aload_n 0, 1) := by decide +kernel
theorem dX8_taken_6 : decode cX8_taken 6 = .ok (.getfield 17, 3) := by decide +kernel
theorem dX8_taken_9 : decode cX8_taken 9 = .ok (.arraylength, 1) := by decide +kernel
theorem dX8_taken_10 : decode cX8_taken 10 = .ok (.if_icmp .ge 21, 3) := by decide +kernel
theorem dX8_taken_13 : decode cX8_taken 13 = .ok (.aload_n 0, 1) := by decide +kernel
theorem dX8_taken_14 : decode cX8_taken 14 = .ok (.getfield 17, 3) := by decide +kernel
theorem dX8_taken_17 : decode cX8_taken 17 = .ok (.iload_n 2, 1) := by decide +kernel
theorem dX8_taken_18 : decode cX8_taken 18 = .ok (.aaload, 1) := by decide +kernel
theorem dX8_taken_19 : decode cX8_taken 19 = .ok (.ifnull 6, 3) := by decide +kernel
theorem dX8_taken_22 : decode cX8_taken 22 = .ok (.iinc 1 1, 3) := by decide +kernel
theorem dX8_taken_25 : decode cX8_taken 25 = .ok (.iinc 2 1, 3) := by decide +kernel
theorem dX8_taken_28 : decode cX8_taken 28 = .ok (.goto (-24), 3) := by decide +kernel
theorem dX8_taken_31 : decode cX8_taken 31 = .ok (.iload_n 1, 1) := by decide +kernel
theorem dX8_taken_32 : decode cX8_taken 32 = .ok (.ireturn, 1) := by decide +kernel
theorem dX8_rememberedThings_0 : decode cX8_rememberedThings 0 = .ok (.iconst 0, 1) := by decide +kernel
theorem dX8_rememberedThings_1 : decode cX8_rememberedThings 1 = .ok (.istore_n 1, 1) := by decide +kernel
theorem dX8_rememberedThings_2 : decode cX8_rememberedThings 2 = .ok (.iconst 0, 1) := by decide +kernel
theorem dX8_rememberedThings_3 : decode cX8_rememberedThings 3 = .ok (.istore_n 2, 1) := by decide +kernel
theorem dX8_rememberedThings_4 : decode cX8_rememberedThings 4 = .ok (.iload_n 2, 1) := by decide +kernel
theorem dX8_rememberedThings_5 : decode cX8_rememberedThings 5 = .ok (.aload_n 0, 1) := by decide +kernel
theorem dX8_rememberedThings_6 : decode cX8_rememberedThings 6 = .ok (.getfield 17, 3) := by decide +kernel
theorem dX8_rememberedThings_9 : decode cX8_rememberedThings 9 = .ok (.arraylength, 1) := by decide +kernel
theorem dX8_rememberedThings_10 : decode cX8_rememberedThings 10 = .ok (.if_icmp .ge 29, 3) := by decide +kernel
theorem dX8_rememberedThings_13 : decode cX8_rememberedThings 13 = .ok (.aload_n 0, 1) := by decide +kernel
theorem dX8_rememberedThings_14 : decode cX8_rememberedThings 14 = .ok (.iload_n 2, 1) := by decide +kernel
theorem dX8_rememberedThings_15 : decode cX8_rememberedThings 15 = .ok (.invokevirtual 42, 3) := by decide +kernel
theorem dX8_rememberedThings_18 : decode cX8_rememberedThings 18 = .ok (.astore_n 3, 1) := by decide +kernel
theorem dX8_rememberedThings_19 : decode cX8_rememberedThings 19 = .ok (.aload_n 3, 1) := by decide +kernel
theorem dX8_rememberedThings_20 : decode cX8_rememberedThings 20 = .ok (.ifnull 13, 3) := by decide +kernel
theorem dX8_rememberedThings_23 : decode cX8_rememberedThings 23 = .ok (.aload_n 3, 1) := by decide +kernel
theorem dX8_rememberedThings_24 : decode cX8_rememberedThings 24 = .ok (.getfield 45, 3) := by decide +kernel
theorem dX8_rememberedThings_27 : decode cX8_rememberedThings 27 = .ok (.ifCond .eq 6, 3) := by decide +kernel
theorem dX8_rememberedThings_30 : decode cX8_rememberedThings 30 = .ok (.iinc 1 1, 3) := by decide +kernel
theorem dX8_rememberedThings_33 : decode cX8_rememberedThings 33 = .ok (.iinc 2 1, 3) := by decide +kernel
theorem dX8_rememberedThings_36 : decode cX8_rememberedThings 36 = .ok (.goto (-32), 3) := by decide +kernel
theorem dX8_rememberedThings_39 : decode cX8_rememberedThings 39 = .ok (.iload_n 1, 1) := by decide +kernel
theorem dX8_rememberedThings_40 : decode cX8_rememberedThings 40 = .ok (.ireturn, 1) := by decide +kernel
theorem dX9_init_0 : decode cX9_init 0 = .ok (.aload_n 0, 1) := by decide +kernel
theorem dX9_init_1 : decode cX9_init 1 = .ok (.invokespecial 1, 3) := by decide +kernel
theorem dX9_init_4 : decode cX9_init 4 = .ok (.new 7, 3) := by decide +kernel
theorem dX9_init_7 : decode cX9_init 7 = .ok (.dup, 1) := by decide +kernel
theorem dX9_init_8 : decode cX9_init 8 = .ok (.iload_n 2, 1) := by decide +kernel
theorem dX9_init_9 : decode cX9_init 9 = .ok (.invokestatic 9, 3) := by decide +kernel
theorem dX9_init_12 : decode cX9_init 12 = .ok (.invokespecial 15, 3) := by decide +kernel
theorem dX9_init_15 : decode cX9_init 15 = .ok (.astore_n 3, 1) := by decide +kernel
theorem dX9_init_16 : decode cX9_init 16 = .ok (.new 18, 3) := by decide +kernel
theorem dX9_init_19 : decode cX9_init 19 = .ok (.dup, 1) := by decide +kernel
theorem dX9_init_20 : decode cX9_init 20 = .ok (.invokespecial 20, 3) := by decide +kernel
theorem dX9_init_23 : decode cX9_init 23 = .ok (.astore 4, 2) := by decide +kernel
theorem dX9_init_25 : decode cX9_init 25 = .ok (.aload_n 0, 1) := by decide +kernel
theorem dX9_init_26 : decode cX9_init 26 = .ok (.aload_n 3, 1) := by decide +kernel
theorem dX9_init_27 : decode cX9_init 27 = .ok (.putfield 21, 3) := by decide +kernel
theorem dX9_init_30 : decode cX9_init 30 = .ok (.aload_n 0, 1) := by decide +kernel
theorem dX9_init_31 : decode cX9_init 31 = .ok (.aload 4, 2) := by decide +kernel
theorem dX9_init_33 : decode cX9_init 33 = .ok (.putfield 25, 3) := by decide +kernel
theorem dX9_init_36 : decode cX9_init 36 = .ok (.aload_n 0, 1) := by decide +kernel
theorem dX9_init_37 : decode cX9_init 37 = .ok (.iload_n 1, 1) := by decide +kernel
theorem dX9_init_38 : decode cX9_init 38 = .ok (.aload_n 3, 1) := by decide +kernel
theorem dX9_init_39 : decode cX9_init 39 = .ok (.aload 4, 2) := by decide +kernel
theorem dX9_init_41 : decode cX9_init 41 = .ok (.invokestatic 29, 3) := by decide +kernel
theorem dX9_init_44 : decode cX9_init 44 = .ok (.putfield 33, 3) := by decide +kernel
theorem dX9_init_47 : decode cX9_init 47 = .ok (.aload_n 0, 1) := by decide +kernel
theorem dX9_init_48 : decode cX9_init 48 = .ok (.iconst 0, 1) := by decide +kernel
theorem dX9_init_49 : decode cX9_init 49 = .ok (.putfield 37, 3) := by decide +kernel
theorem dX9_init_52 : decode cX9_init 52 = .ok (.return_, 1) := by decide +kernel
theorem dX9_make_0 : decode cX9_make 0 = .ok (.aload_n 0, 1) := by decide +kernel
theorem dX9_make_1 : decode cX9_make 1 = .ok (.getfield 25, 3) := by decide +kernel
theorem dX9_make_4 : decode cX9_make 4 = .ok (.iload_n 1, 1) := by decide +kernel
theorem dX9_make_5 : decode cX9_make 5 = .ok (.invokevirtual 41, 3) := by decide +kernel
theorem dX9_make_8 : decode cX9_make 8 = .ok (.ifCond .eq 13, 3) := by decide +kernel
theorem dX9_make_11 : decode cX9_make 11 = .ok (.iload_n 2, 1) := by decide +kernel
theorem dX9_make_12 : decode cX9_make 12 = .ok (.ifCond .lt 9, 3) := by decide +kernel
theorem dX9_make_15 : decode cX9_make 15 = .ok (.iload_n 2, 1) := by decide +kernel
theorem dX9_make_16 : decode cX9_make 16 = .ok (.bipush 6, 2) := by decide +kernel
theorem dX9_make_18 : decode cX9_make 18 = .ok (.if_icmp .le 6, 3) := by decide +kernel
theorem dX9_make_21 : decode cX9_make 21 = .ok (.bipush (-2), 2) := by decide +kernel
theorem dX9_make_23 : decode cX9_make 23 = .ok (.ireturn, 1) := by decide +kernel
theorem dX9_make_24 : decode cX9_make 24 = .ok (.aload_n 0, 1) := by decide +kernel
theorem dX9_make_25 : decode cX9_make 25 = .ok (.getfield 37, 3) := by decide +kernel
theorem dX9_make_28 : decode cX9_make 28 = .ok (.sipush 2000, 3) := by decide +kernel
theorem dX9_make_31 : decode cX9_make 31 = .ok (.if_icmp .lt 6, 3) := by decide +kernel
theorem dX9_make_34 : decode cX9_make 34 = .ok (.bipush (-4), 2) := by decide +kernel
theorem dX9_make_36 : decode cX9_make 36 = .ok (.ireturn, 1) := by decide +kernel
theorem dX9_make_37 : decode cX9_make 37 = .ok (.aload_n 0, 1) := by decide +kernel
theorem dX9_make_38 : decode cX9_make 38 = .ok (.getfield 33, 3) := by decide +kernel
theorem dX9_make_41 : decode cX9_make 41 = .ok (.iload_n 2, 1) := by decide +kernel
theorem dX9_make_42 : decode cX9_make 42 = .ok (.iconst 1, 1) := by decide +kernel
theorem dX9_make_43 : decode cX9_make 43 = .ok (.iadd, 1) := by decide +kernel
theorem dX9_make_44 : decode cX9_make 44 = .ok (.invokevirtual 45, 3) := by decide +kernel
theorem dX9_make_47 : decode cX9_make 47 = .ok (.istore_n 3, 1) := by decide +kernel
theorem dX9_make_48 : decode cX9_make 48 = .ok (.iload_n 3, 1) := by decide +kernel
theorem dX9_make_49 : decode cX9_make 49 = .ok (.iconst (-1), 1) := by decide +kernel
theorem dX9_make_50 : decode cX9_make 50 = .ok (.if_icmp .ne 24, 3) := by decide +kernel
theorem dX9_make_53 : decode cX9_make 53 = .ok (.aload_n 0, 1) := by decide +kernel
theorem dX9_make_54 : decode cX9_make 54 = .ok (.getfield 33, 3) := by decide +kernel
theorem dX9_make_57 : decode cX9_make 57 = .ok (.iload_n 2, 1) := by decide +kernel
theorem dX9_make_58 : decode cX9_make 58 = .ok (.iconst 1, 1) := by decide +kernel
theorem dX9_make_59 : decode cX9_make 59 = .ok (.iadd, 1) := by decide +kernel
theorem dX9_make_60 : decode cX9_make 60 = .ok (.invokevirtual 50, 3) := by decide +kernel
theorem dX9_make_63 : decode cX9_make 63 = .ok (.aload_n 0, 1) := by decide +kernel
theorem dX9_make_64 : decode cX9_make 64 = .ok (.getfield 33, 3) := by decide +kernel
theorem dX9_make_67 : decode cX9_make 67 = .ok (.iload_n 2, 1) := by decide +kernel
theorem dX9_make_68 : decode cX9_make 68 = .ok (.iconst 1, 1) := by decide +kernel
theorem dX9_make_69 : decode cX9_make 69 = .ok (.iadd, 1) := by decide +kernel
theorem dX9_make_70 : decode cX9_make 70 = .ok (.invokevirtual 45, 3) := by decide +kernel
theorem dX9_make_73 : decode cX9_make 73 = .ok (.istore_n 3, 1) := by decide +kernel
theorem dX9_make_74 : decode cX9_make 74 = .ok (.iload_n 3, 1) := by decide +kernel
theorem dX9_make_75 : decode cX9_make 75 = .ok (.iconst (-1), 1) := by decide +kernel
theorem dX9_make_76 : decode cX9_make 76 = .ok (.if_icmp .ne 6, 3) := by decide +kernel
theorem dX9_make_79 : decode cX9_make 79 = .ok (.bipush (-4), 2) := by decide +kernel
theorem dX9_make_81 : decode cX9_make 81 = .ok (.ireturn, 1) := by decide +kernel
theorem dX9_make_82 : decode cX9_make 82 = .ok (.new 53, 3) := by decide +kernel
theorem dX9_make_85 : decode cX9_make 85 = .ok (.dup, 1) := by decide +kernel
theorem dX9_make_86 : decode cX9_make 86 = .ok (.aload_n 0, 1) := by decide +kernel
theorem dX9_make_87 : decode cX9_make 87 = .ok (.getfield 37, 3) := by decide +kernel
theorem dX9_make_90 : decode cX9_make 90 = .ok (.iload_n 2, 1) := by decide +kernel
theorem dX9_make_91 : decode cX9_make 91 = .ok (.invokespecial 55, 3) := by decide +kernel
theorem dX9_make_94 : decode cX9_make 94 = .ok (.astore 4, 2) := by decide +kernel
theorem dX9_make_96 : decode cX9_make 96 = .ok (.aload_n 0, 1) := by decide +kernel
theorem dX9_make_97 : decode cX9_make 97 = .ok (.dup, 1) := by decide +kernel
theorem dX9_make_98 : decode cX9_make 98 = .ok (.getfield 37, 3) := by decide +kernel
theorem dX9_make_101 : decode cX9_make 101 = .ok (.iconst 1, 1) := by decide +kernel
theorem dX9_make_102 : decode cX9_make 102 = .ok (.iadd, 1) := by decide +kernel
theorem dX9_make_103 : decode cX9_make 103 = .ok (.putfield 37, 3) := by decide +kernel
theorem dX9_make_106 : decode cX9_make 106 = .ok (.aload_n 0, 1) := by decide +kernel
theorem dX9_make_107 : decode cX9_make 107 = .ok (.getfield 21, 3) := by decide +kernel
theorem dX9_make_110 : decode cX9_make 110 = .ok (.aload 4, 2) := by decide +kernel
theorem dX9_make_112 : decode cX9_make 112 = .ok (.iload_n 3, 1) := by decide +kernel
theorem dX9_make_113 : decode cX9_make 113 = .ok (.invokevirtual 58, 3) := by decide +kernel
theorem dX9_make_116 : decode cX9_make 116 = .ok (.aload_n 0, 1) := by decide +kernel
theorem dX9_make_117 : decode cX9_make 117 = .ok (.getfield 25, 3) := by decide +kernel
theorem dX9_make_120 : decode cX9_make 120 = .ok (.iload_n 1, 1) := by decide +kernel
theorem dX9_make_121 : decode cX9_make 121 = .ok (.aload 4, 2) := by decide +kernel
theorem dX9_make_123 : decode cX9_make 123 = .ok (.invokevirtual 62, 3) := by decide +kernel
theorem dX9_make_126 : decode cX9_make 126 = .ok (.aload 4, 2) := by decide +kernel
theorem dX9_make_128 : decode cX9_make 128 = .ok (.getfield 66, 3) := by decide +kernel
theorem dX9_make_131 : decode cX9_make 131 = .ok (.ireturn, 1) := by decide +kernel
theorem dX9_set_0 : decode cX9_set 0 = .ok (.aload_n 0, 1) := by decide +kernel
theorem dX9_set_1 : decode cX9_set 1 = .ok (.iload_n 1, 1) := by decide +kernel
theorem dX9_set_2 : decode cX9_set 2 = .ok (.iload_n 2, 1) := by decide +kernel
theorem dX9_set_3 : decode cX9_set 3 = .ok (.invokevirtual 69, 3) := by decide +kernel
theorem dX9_set_6 : decode cX9_set 6 = .ok (.astore 4, 2) := by decide +kernel
theorem dX9_set_8 : decode cX9_set 8 = .ok (.aload 4, 2) := by decide +kernel
theorem dX9_set_10 : decode cX9_set 10 = .ok (.ifnonnull 10, 3) := by decide +kernel
theorem dX9_set_13 : decode cX9_set 13 = .ok (.aload_n 0, 1) := by decide +kernel
theorem dX9_set_14 : decode cX9_set 14 = .ok (.iload_n 1, 1) := by decide +kernel
theorem dX9_set_15 : decode cX9_set 15 = .ok (.iload_n 2, 1) := by decide +kernel
theorem dX9_set_16 : decode cX9_set 16 = .ok (.invokevirtual 73, 3) := by decide +kernel
theorem dX9_set_19 : decode cX9_set 19 = .ok (.ireturn, 1) := by decide +kernel
theorem dX9_set_20 : decode cX9_set 20 = .ok (.aload 4, 2) := by decide +kernel
theorem dX9_set_22 : decode cX9_set 22 = .ok (.iload_n 2, 1) := by decide +kernel
theorem dX9_set_23 : decode cX9_set 23 = .ok (.iload_n 3, 1) := by decide +kernel
theorem dX9_set_24 : decode cX9_set 24 = .ok (.aconst_null, 1) := by decide +kernel
theorem dX9_set_25 : decode cX9_set 25 = .ok (.invokevirtual 77, 3) := by decide +kernel
theorem dX9_set_28 : decode cX9_set 28 = .ok (.iconst 0, 1) := by decide +kernel
theorem dX9_set_29 : decode cX9_set 29 = .ok (.ireturn, 1) := by decide +kernel
theorem dX9_link_0 : decode cX9_link 0 = .ok (.aload_n 0, 1) := by decide +kernel
theorem dX9_link_1 : decode cX9_link 1 = .ok (.getfield 25, 3) := by decide +kernel
theorem dX9_link_4 : decode cX9_link 4 = .ok (.iload_n 3, 1) := by decide +kernel
theorem dX9_link_5 : decode cX9_link 5 = .ok (.invokevirtual 41, 3) := by decide +kernel
theorem dX9_link_8 : decode cX9_link 8 = .ok (.ifCond .ne 6, 3) := by decide +kernel
theorem dX9_link_11 : decode cX9_link 11 = .ok (.bipush (-2), 2) := by decide +kernel
theorem dX9_link_13 : decode cX9_link 13 = .ok (.ireturn, 1) := by decide +kernel
theorem dX9_link_14 : decode cX9_link 14 = .ok (.aload_n 0, 1) := by decide +kernel
theorem dX9_link_15 : decode cX9_link 15 = .ok (.iload_n 1, 1) := by decide +kernel
theorem dX9_link_16 : decode cX9_link 16 = .ok (.iload_n 2, 1) := by decide +kernel
theorem dX9_link_17 : decode cX9_link 17 = .ok (.invokevirtual 69, 3) := by decide +kernel
theorem dX9_link_20 : decode cX9_link 20 = .ok (.astore 4, 2) := by decide +kernel
theorem dX9_link_22 : decode cX9_link 22 = .ok (.aload 4, 2) := by decide +kernel
theorem dX9_link_24 : decode cX9_link 24 = .ok (.ifnonnull 10, 3) := by decide +kernel
theorem dX9_link_27 : decode cX9_link 27 = .ok (.aload_n 0, 1) := by decide +kernel
theorem dX9_link_28 : decode cX9_link 28 = .ok (.iload_n 1, 1) := by decide +kernel
theorem dX9_link_29 : decode cX9_link 29 = .ok (.iload_n 2, 1) := by decide +kernel
theorem dX9_link_30 : decode cX9_link 30 = .ok (.invokevirtual 73, 3) := by decide +kernel
theorem dX9_link_33 : decode cX9_link 33 = .ok (.ireturn, 1) := by decide +kernel
theorem dX9_link_34 : decode cX9_link 34 = .ok (.aload_n 0, 1) := by decide +kernel
theorem dX9_link_35 : decode cX9_link 35 = .ok (.getfield 25, 3) := by decide +kernel
theorem dX9_link_38 : decode cX9_link 38 = .ok (.iload_n 3, 1) := by decide +kernel
theorem dX9_link_39 : decode cX9_link 39 = .ok (.invokevirtual 81, 3) := by decide +kernel
theorem dX9_link_42 : decode cX9_link 42 = .ok (.astore 5, 2) := by decide +kernel
theorem dX9_link_44 : decode cX9_link 44 = .ok (.aload 5, 2) := by decide +kernel
theorem dX9_link_46 : decode cX9_link 46 = .ok (.ifnonnull 6, 3) := by decide +kernel
theorem dX9_link_49 : decode cX9_link 49 = .ok (.bipush (-3), 2) := by decide +kernel
theorem dX9_link_51 : decode cX9_link 51 = .ok (.ireturn, 1) := by decide +kernel
theorem dX9_link_52 : decode cX9_link 52 = .ok (.aload 4, 2) := by decide +kernel
theorem dX9_link_54 : decode cX9_link 54 = .ok (.iload_n 2, 1) := by decide +kernel
theorem dX9_link_55 : decode cX9_link 55 = .ok (.iconst 0, 1) := by decide +kernel
theorem dX9_link_56 : decode cX9_link 56 = .ok (.aload 5, 2) := by decide +kernel
theorem dX9_link_58 : decode cX9_link 58 = .ok (.invokevirtual 77, 3) := by decide +kernel
theorem dX9_link_61 : decode cX9_link 61 = .ok (.aload_n 0, 1) := by decide +kernel
theorem dX9_link_62 : decode cX9_link 62 = .ok (.getfield 33, 3) := by decide +kernel
theorem dX9_link_65 : decode cX9_link 65 = .ok (.aload 4, 2) := by decide +kernel
theorem dX9_link_67 : decode cX9_link 67 = .ok (.invokevirtual 85, 3) := by decide +kernel
theorem dX9_link_70 : decode cX9_link 70 = .ok (.ifCond .eq 21, 3) := by decide +kernel
theorem dX9_link_73 : decode cX9_link 73 = .ok (.aload_n 0, 1) := by decide +kernel
theorem dX9_link_74 : decode cX9_link 74 = .ok (.getfield 33, 3) := by decide +kernel
theorem dX9_link_77 : decode cX9_link 77 = .ok (.aload 5, 2) := by decide +kernel
theorem dX9_link_79 : decode cX9_link 79 = .ok (.invokevirtual 85, 3) := by decide +kernel
theorem dX9_link_82 : decode cX9_link 82 = .ok (.ifCond .ne 9, 3) := by decide +kernel
theorem dX9_link_85 : decode cX9_link 85 = .ok (.aload 4, 2) := by decide +kernel
theorem dX9_link_87 : decode cX9_link 87 = .ok (.iconst 1, 1) := by decide +kernel
theorem dX9_link_88 : decode cX9_link 88 = .ok (.putfield 89, 3) := by decide +kernel
theorem dX9_link_91 : decode cX9_link 91 = .ok (.iconst 0, 1) := by decide +kernel
theorem dX9_link_92 : decode cX9_link 92 = .ok (.ireturn, 1) := by decide +kernel
theorem dX9_refers_0 : decode cX9_refers 0 = .ok (.aload_n 0, 1) := by decide +kernel
theorem dX9_refers_1 : decode cX9_refers 1 = .ok (.iload_n 1, 1) := by decide +kernel
theorem dX9_refers_2 : decode cX9_refers 2 = .ok (.iload_n 2, 1) := by decide +kernel
theorem dX9_refers_3 : decode cX9_refers 3 = .ok (.invokevirtual 69, 3) := by decide +kernel
theorem dX9_refers_6 : decode cX9_refers 6 = .ok (.astore_n 3, 1) := by decide +kernel
theorem dX9_refers_7 : decode cX9_refers 7 = .ok (.aload_n 3, 1) := by decide +kernel
theorem dX9_refers_8 : decode cX9_refers 8 = .ok (.ifnonnull 10, 3) := by decide +kernel
theorem dX9_refers_11 : decode cX9_refers 11 = .ok (.aload_n 0, 1) := by decide +kernel
theorem dX9_refers_12 : decode cX9_refers 12 = .ok (.iload_n 1, 1) := by decide +kernel
theorem dX9_refers_13 : decode cX9_refers 13 = .ok (.iload_n 2, 1) := by decide +kernel
theorem dX9_refers_14 : decode cX9_refers 14 = .ok (.invokevirtual 73, 3) := by decide +kernel
theorem dX9_refers_17 : decode cX9_refers 17 = .ok (.ireturn, 1) := by decide +kernel
theorem dX9_refers_18 : decode cX9_refers 18 = .ok (.aload_n 3, 1) := by decide +kernel
theorem dX9_refers_19 : decode cX9_refers 19 = .ok (.iload_n 2, 1) := by decide +kernel
theorem dX9_refers_20 : decode cX9_refers 20 = .ok (.invokevirtual 93, 3) := by decide +kernel
theorem dX9_refers_23 : decode cX9_refers 23 = .ok (.ifnull 7, 3) := by decide +kernel
theorem dX9_refers_26 : decode cX9_refers 26 = .ok (.iconst 1, 1) := by decide +kernel
theorem dX9_refers_27 : decode cX9_refers 27 = .ok (.goto 4, 3) := by decide +kernel
theorem dX9_refers_30 : decode cX9_refers 30 = .ok (.iconst 0, 1) := by decide +kernel
theorem dX9_refers_31 : decode cX9_refers 31 = .ok (.invokestatic 96, 3) := by decide +kernel
theorem dX9_refers_34 : decode cX9_refers 34 = .ok (.ireturn, 1) := by decide +kernel
theorem dX9_number_0 : decode cX9_number 0 = .ok (.aload_n 0, 1) := by decide +kernel
theorem dX9_number_1 : decode cX9_number 1 = .ok (.iload_n 1, 1) := by decide +kernel
theorem dX9_number_2 : decode cX9_number 2 = .ok (.iload_n 2, 1) := by decide +kernel
theorem dX9_number_3 : decode cX9_number 3 = .ok (.invokevirtual 69, 3) := by decide +kernel
theorem dX9_number_6 : decode cX9_number 6 = .ok (.astore_n 3, 1) := by decide +kernel
theorem dX9_number_7 : decode cX9_number 7 = .ok (.aload_n 3, 1) := by decide +kernel
theorem dX9_number_8 : decode cX9_number 8 = .ok (.ifnonnull 7, 3) := by decide +kernel
theorem dX9_number_11 : decode cX9_number 11 = .ok (.iconst 0, 1) := by decide +kernel
theorem dX9_number_12 : decode cX9_number 12 = .ok (.goto 8, 3) := by decide +kernel
theorem dX9_number_15 : decode cX9_number 15 = .ok (.aload_n 3, 1) := by decide +kernel
theorem dX9_number_16 : decode cX9_number 16 = .ok (.iload_n 2, 1) := by decide +kernel
theorem dX9_number_17 : decode cX9_number 17 = .ok (.invokevirtual 100, 3) := by decide +kernel
theorem dX9_number_20 : decode cX9_number 20 = .ok (.ireturn, 1) := by decide +kernel
theorem dX9_load_0 : decode cX9_load 0 = .ok (.aload_n 0, 1) := by decide +kernel
theorem dX9_load_1 : decode cX9_load 1 = .ok (.getfield 25, 3) := by decide +kernel
theorem dX9_load_4 : decode cX9_load 4 = .ok (.iload_n 1, 1) := by decide +kernel
theorem dX9_load_5 : decode cX9_load 5 = .ok (.invokevirtual 41, 3) := by decide +kernel
theorem dX9_load_8 : decode cX9_load 8 = .ok (.ifCond .ne 6, 3) := by decide +kernel
theorem dX9_load_11 : decode cX9_load 11 = .ok (.bipush (-2), 2) := by decide +kernel
theorem dX9_load_13 : decode cX9_load 13 = .ok (.ireturn, 1) := by decide +kernel
theorem dX9_load_14 : decode cX9_load 14 = .ok (.aload_n 0, 1) := by decide +kernel
theorem dX9_load_15 : decode cX9_load 15 = .ok (.iload_n 2, 1) := by decide +kernel
theorem dX9_load_16 : decode cX9_load 16 = .ok (.iload_n 3, 1) := by decide +kernel
theorem dX9_load_17 : decode cX9_load 17 = .ok (.invokevirtual 69, 3) := by decide +kernel
theorem dX9_load_20 : decode cX9_load 20 = .ok (.astore 4, 2) := by decide +kernel
theorem dX9_load_22 : decode cX9_load 22 = .ok (.aload 4, 2) := by decide +kernel
theorem dX9_load_24 : decode cX9_load 24 = .ok (.ifnonnull 10, 3) := by decide +kernel
theorem dX9_load_27 : decode cX9_load 27 = .ok (.aload_n 0, 1) := by decide +kernel
theorem dX9_load_28 : decode cX9_load 28 = .ok (.iload_n 2, 1) := by decide +kernel
theorem dX9_load_29 : decode cX9_load 29 = .ok (.iload_n 3, 1) := by decide +kernel
theorem dX9_load_30 : decode cX9_load 30 = .ok (.invokevirtual 73, 3) := by decide +kernel
theorem dX9_load_33 : decode cX9_load 33 = .ok (.ireturn, 1) := by decide +kernel
theorem dX9_load_34 : decode cX9_load 34 = .ok (.aload 4, 2) := by decide +kernel
theorem dX9_load_36 : decode cX9_load 36 = .ok (.iload_n 3, 1) := by decide +kernel
theorem dX9_load_37 : decode cX9_load 37 = .ok (.invokevirtual 93, 3) := by decide +kernel
theorem dX9_load_40 : decode cX9_load 40 = .ok (.astore 5, 2) := by decide +kernel
theorem dX9_load_42 : decode cX9_load 42 = .ok (.aload 5, 2) := by decide +kernel
theorem dX9_load_44 : decode cX9_load 44 = .ok (.ifnonnull 6, 3) := by decide +kernel
theorem dX9_load_47 : decode cX9_load 47 = .ok (.bipush (-3), 2) := by decide +kernel
theorem dX9_load_49 : decode cX9_load 49 = .ok (.ireturn, 1) := by decide +kernel
theorem dX9_load_50 : decode cX9_load 50 = .ok (.aload_n 0, 1) := by decide +kernel
theorem dX9_load_51 : decode cX9_load 51 = .ok (.getfield 25, 3) := by decide +kernel
theorem dX9_load_54 : decode cX9_load 54 = .ok (.iload_n 1, 1) := by decide +kernel
theorem dX9_load_55 : decode cX9_load 55 = .ok (.aload 5, 2) := by decide +kernel
theorem dX9_load_57 : decode cX9_load 57 = .ok (.invokevirtual 62, 3) := by decide +kernel
theorem dX9_load_60 : decode cX9_load 60 = .ok (.aload 5, 2) := by decide +kernel
theorem dX9_load_62 : decode cX9_load 62 = .ok (.getfield 66, 3) := by decide +kernel
theorem dX9_load_65 : decode cX9_load 65 = .ok (.ireturn, 1) := by decide +kernel
theorem dX9_copy_0 : decode cX9_copy 0 = .ok (.aload_n 0, 1) := by decide +kernel
theorem dX9_copy_1 : decode cX9_copy 1 = .ok (.getfield 25, 3) := by decide +kernel
theorem dX9_copy_4 : decode cX9_copy 4 = .ok (.iload_n 1, 1) := by decide +kernel
theorem dX9_copy_5 : decode cX9_copy 5 = .ok (.invokevirtual 41, 3) := by decide +kernel
theorem dX9_copy_8 : decode cX9_copy 8 = .ok (.ifCond .eq 14, 3) := by decide +kernel
theorem dX9_copy_11 : decode cX9_copy 11 = .ok (.aload_n 0, 1) := by decide +kernel
theorem dX9_copy_12 : decode cX9_copy 12 = .ok (.getfield 25, 3) := by decide +kernel
theorem dX9_copy_15 : decode cX9_copy 15 = .ok (.iload_n 2, 1) := by decide +kernel
theorem dX9_copy_16 : decode cX9_copy 16 = .ok (.invokevirtual 41, 3) := by decide +kernel
theorem dX9_copy_19 : decode cX9_copy 19 = .ok (.ifCond .ne 6, 3) := by decide +kernel
theorem dX9_copy_22 : decode cX9_copy 22 = .ok (.bipush (-2), 2) := by decide +kernel
theorem dX9_copy_24 : decode cX9_copy 24 = .ok (.ireturn, 1) := by decide +kernel
theorem dX9_copy_25 : decode cX9_copy 25 = .ok (.aload_n 0, 1) := by decide +kernel
theorem dX9_copy_26 : decode cX9_copy 26 = .ok (.getfield 25, 3) := by decide +kernel
theorem dX9_copy_29 : decode cX9_copy 29 = .ok (.iload_n 2, 1) := by decide +kernel
theorem dX9_copy_30 : decode cX9_copy 30 = .ok (.invokevirtual 81, 3) := by decide +kernel
theorem dX9_copy_33 : decode cX9_copy 33 = .ok (.astore_n 3, 1) := by decide +kernel
theorem dX9_copy_34 : decode cX9_copy 34 = .ok (.aload_n 0, 1) := by decide +kernel
theorem dX9_copy_35 : decode cX9_copy 35 = .ok (.getfield 25, 3) := by decide +kernel
theorem dX9_copy_38 : decode cX9_copy 38 = .ok (.iload_n 1, 1) := by decide +kernel
theorem dX9_copy_39 : decode cX9_copy 39 = .ok (.aload_n 3, 1) := by decide +kernel
theorem dX9_copy_40 : decode cX9_copy 40 = .ok (.invokevirtual 62, 3) := by decide +kernel
theorem dX9_copy_43 : decode cX9_copy 43 = .ok (.aload_n 3, 1) := by decide +kernel
theorem dX9_copy_44 : decode cX9_copy 44 = .ok (.invokestatic 103, 3) := by decide +kernel
theorem dX9_copy_47 : decode cX9_copy 47 = .ok (.ireturn, 1) := by decide +kernel
theorem dX9_drop_0 : decode cX9_drop 0 = .ok (.aload_n 0, 1) := by decide +kernel
theorem dX9_drop_1 : decode cX9_drop 1 = .ok (.getfield 25, 3) := by decide +kernel
theorem dX9_drop_4 : decode cX9_drop 4 = .ok (.iload_n 1, 1) := by decide +kernel
theorem dX9_drop_5 : decode cX9_drop 5 = .ok (.invokevirtual 41, 3) := by decide +kernel
theorem dX9_drop_8 : decode cX9_drop 8 = .ok (.ifCond .ne 6, 3) := by decide +kernel
theorem dX9_drop_11 : decode cX9_drop 11 = .ok (.bipush (-2), 2) := by decide +kernel
theorem dX9_drop_13 : decode cX9_drop 13 = .ok (.ireturn, 1) := by decide +kernel
theorem dX9_drop_14 : decode cX9_drop 14 = .ok (.aload_n 0, 1) := by decide +kernel
theorem dX9_drop_15 : decode cX9_drop 15 = .ok (.getfield 25, 3) := by decide +kernel
theorem dX9_drop_18 : decode cX9_drop 18 = .ok (.iload_n 1, 1) := by decide +kernel
theorem dX9_drop_19 : decode cX9_drop 19 = .ok (.invokevirtual 81, 3) := by decide +kernel
theorem dX9_drop_22 : decode cX9_drop 22 = .ok (.ifnull 7, 3) := by decide +kernel
theorem dX9_drop_25 : decode cX9_drop 25 = .ok (.iconst 1, 1) := by decide +kernel
theorem dX9_drop_26 : decode cX9_drop 26 = .ok (.goto 4, 3) := by decide +kernel
theorem dX9_drop_29 : decode cX9_drop 29 = .ok (.iconst 0, 1) := by decide +kernel
theorem dX9_drop_30 : decode cX9_drop 30 = .ok (.istore_n 2, 1) := by decide +kernel
theorem dX9_drop_31 : decode cX9_drop 31 = .ok (.aload_n 0, 1) := by decide +kernel
theorem dX9_drop_32 : decode cX9_drop 32 = .ok (.getfield 25, 3) := by decide +kernel
theorem dX9_drop_35 : decode cX9_drop 35 = .ok (.iload_n 1, 1) := by decide +kernel
theorem dX9_drop_36 : decode cX9_drop 36 = .ok (.aconst_null, 1) := by decide +kernel
theorem dX9_drop_37 : decode cX9_drop 37 = .ok (.invokevirtual 62, 3) := by decide +kernel
theorem dX9_drop_40 : decode cX9_drop 40 = .ok (.iload_n 2, 1) := by decide +kernel
theorem dX9_drop_41 : decode cX9_drop 41 = .ok (.invokestatic 96, 3) := by decide +kernel
theorem dX9_drop_44 : decode cX9_drop 44 = .ok (.ireturn, 1) := by decide +kernel
theorem dX9_collect_0 : decode cX9_collect 0 = .ok (.aload_n 0, 1) := by decide +kernel
theorem dX9_collect_1 : decode cX9_collect 1 = .ok (.getfield 33, 3) := by decide +kernel
theorem dX9_collect_4 : decode cX9_collect 4 = .ok (.invokevirtual 107, 3) := by decide +kernel
theorem dX9_collect_7 : decode cX9_collect 7 = .ok (.ireturn, 1) := by decide +kernel
theorem dX9_minor_0 : decode cX9_minor 0 = .ok (.aload_n 0, 1) := by decide +kernel
theorem dX9_minor_1 : decode cX9_minor 1 = .ok (.getfield 33, 3) := by decide +kernel
theorem dX9_minor_4 : decode cX9_minor 4 = .ok (.invokevirtual 111, 3) := by decide +kernel
theorem dX9_minor_7 : decode cX9_minor 7 = .ok (.ireturn, 1) := by decide +kernel
theorem dX9_object_0 : decode cX9_object 0 = .ok (.aload_n 0, 1) := by decide +kernel
theorem dX9_object_1 : decode cX9_object 1 = .ok (.getfield 25, 3) := by decide +kernel
theorem dX9_object_4 : decode cX9_object 4 = .ok (.iload_n 1, 1) := by decide +kernel
theorem dX9_object_5 : decode cX9_object 5 = .ok (.invokevirtual 41, 3) := by decide +kernel
theorem dX9_object_8 : decode cX9_object 8 = .ok (.ifCond .eq 12, 3) := by decide +kernel
theorem dX9_object_11 : decode cX9_object 11 = .ok (.iload_n 2, 1) := by decide +kernel
theorem dX9_object_12 : decode cX9_object 12 = .ok (.ifCond .lt 8, 3) := by decide +kernel
theorem dX9_object_15 : decode cX9_object 15 = .ok (.iload_n 2, 1) := by decide +kernel
theorem dX9_object_16 : decode cX9_object 16 = .ok (.iconst 4, 1) := by decide +kernel
theorem dX9_object_17 : decode cX9_object 17 = .ok (.if_icmp .le 6, 3) := by decide +kernel
theorem dX9_object_20 : decode cX9_object 20 = .ok (.bipush (-2), 2) := by decide +kernel
theorem dX9_object_22 : decode cX9_object 22 = .ok (.ireturn, 1) := by decide +kernel
theorem dX9_object_23 : decode cX9_object 23 = .ok (.aload_n 0, 1) := by decide +kernel
theorem dX9_object_24 : decode cX9_object 24 = .ok (.getfield 25, 3) := by decide +kernel
theorem dX9_object_27 : decode cX9_object 27 = .ok (.iload_n 1, 1) := by decide +kernel
theorem dX9_object_28 : decode cX9_object 28 = .ok (.invokevirtual 81, 3) := by decide +kernel
theorem dX9_object_31 : decode cX9_object 31 = .ok (.astore_n 3, 1) := by decide +kernel
theorem dX9_object_32 : decode cX9_object 32 = .ok (.aload_n 3, 1) := by decide +kernel
theorem dX9_object_33 : decode cX9_object 33 = .ok (.ifnonnull 6, 3) := by decide +kernel
theorem dX9_object_36 : decode cX9_object 36 = .ok (.bipush (-3), 2) := by decide +kernel
theorem dX9_object_38 : decode cX9_object 38 = .ok (.ireturn, 1) := by decide +kernel
theorem dX9_object_39 : decode cX9_object 39 = .ok (.iload_n 2, 1) := by decide +kernel
theorem dX9_object_40 : decode cX9_object 40 = .ok (.tableswitch 59 0 3 #[32, 37, 42, 47], 32) := by decide +kernel
theorem dX9_object_72 : decode cX9_object 72 = .ok (.aload_n 3, 1) := by decide +kernel
theorem dX9_object_73 : decode cX9_object 73 = .ok (.getfield 66, 3) := by decide +kernel
theorem dX9_object_76 : decode cX9_object 76 = .ok (.ireturn, 1) := by decide +kernel
theorem dX9_object_77 : decode cX9_object 77 = .ok (.aload_n 3, 1) := by decide +kernel
theorem dX9_object_78 : decode cX9_object 78 = .ok (.getfield 114, 3) := by decide +kernel
theorem dX9_object_81 : decode cX9_object 81 = .ok (.ireturn, 1) := by decide +kernel
theorem dX9_object_82 : decode cX9_object 82 = .ok (.aload_n 3, 1) := by decide +kernel
theorem dX9_object_83 : decode cX9_object 83 = .ok (.invokevirtual 117, 3) := by decide +kernel
theorem dX9_object_86 : decode cX9_object 86 = .ok (.ireturn, 1) := by decide +kernel
theorem dX9_object_87 : decode cX9_object 87 = .ok (.aload_n 0, 1) := by decide +kernel
theorem dX9_object_88 : decode cX9_object 88 = .ok (.getfield 33, 3) := by decide +kernel
theorem dX9_object_91 : decode cX9_object 91 = .ok (.aload_n 3, 1) := by decide +kernel
theorem dX9_object_92 : decode cX9_object 92 = .ok (.invokevirtual 85, 3) := by decide +kernel
theorem dX9_object_95 : decode cX9_object 95 = .ok (.invokestatic 96, 3) := by decide +kernel
theorem dX9_object_98 : decode cX9_object 98 = .ok (.ireturn, 1) := by decide +kernel
theorem dX9_object_99 : decode cX9_object 99 = .ok (.aload_n 3, 1) := by decide +kernel
theorem dX9_object_100 : decode cX9_object 100 = .ok (.getfield 89, 3) := by decide +kernel
theorem dX9_object_103 : decode cX9_object 103 = .ok (.invokestatic 96, 3) := by decide +kernel
theorem dX9_object_106 : decode cX9_object 106 = .ok (.ireturn, 1) := by decide +kernel
theorem dX9_at_0 : decode cX9_at 0 = .ok (.iload_n 1, 1) := by decide +kernel
theorem dX9_at_1 : decode cX9_at 1 = .ok (.ifCond .lt 14, 3) := by decide +kernel
theorem dX9_at_4 : decode cX9_at 4 = .ok (.iload_n 1, 1) := by decide +kernel
theorem dX9_at_5 : decode cX9_at 5 = .ok (.aload_n 0, 1) := by decide +kernel
theorem dX9_at_6 : decode cX9_at 6 = .ok (.getfield 21, 3) := by decide +kernel
theorem dX9_at_9 : decode cX9_at 9 = .ok (.invokevirtual 120, 3) := by decide +kernel
theorem dX9_at_12 : decode cX9_at 12 = .ok (.if_icmp .lt 6, 3) := by decide +kernel
theorem dX9_at_15 : decode cX9_at 15 = .ok (.bipush (-2), 2) := by decide +kernel
theorem dX9_at_17 : decode cX9_at 17 = .ok (.ireturn, 1) := by decide +kernel
theorem dX9_at_18 : decode cX9_at 18 = .ok (.aload_n 0, 1) := by decide +kernel
theorem dX9_at_19 : decode cX9_at 19 = .ok (.getfield 21, 3) := by decide +kernel
theorem dX9_at_22 : decode cX9_at 22 = .ok (.iload_n 1, 1) := by decide +kernel
theorem dX9_at_23 : decode cX9_at 23 = .ok (.invokevirtual 123, 3) := by decide +kernel
theorem dX9_at_26 : decode cX9_at 26 = .ok (.invokestatic 103, 3) := by decide +kernel
theorem dX9_at_29 : decode cX9_at 29 = .ok (.ireturn, 1) := by decide +kernel
theorem dX9_count_0 : decode cX9_count 0 = .ok (.iload_n 1, 1) := by decide +kernel
theorem dX9_count_1 : decode cX9_count 1 = .ok (.tableswitch 127 0 8 #[51, 66, 74, 79, 87, 95, 103, 111, 119], 51) := by decide +kernel
theorem dX9_count_52 : decode cX9_count 52 = .ok (.aload_n 0, 1) := by decide +kernel
theorem dX9_count_53 : decode cX9_count 53 = .ok (.getfield 21, 3) := by decide +kernel
theorem dX9_count_56 : decode cX9_count 56 = .ok (.aload_n 0, 1) := by decide +kernel
theorem dX9_count_57 : decode cX9_count 57 = .ok (.getfield 21, 3) := by decide +kernel
theorem dX9_count_60 : decode cX9_count 60 = .ok (.invokevirtual 120, 3) := by decide +kernel
theorem dX9_count_63 : decode cX9_count 63 = .ok (.invokevirtual 126, 3) := by decide +kernel
theorem dX9_count_66 : decode cX9_count 66 = .ok (.ireturn, 1) := by decide +kernel
theorem dX9_count_67 : decode cX9_count 67 = .ok (.aload_n 0, 1) := by decide +kernel
theorem dX9_count_68 : decode cX9_count 68 = .ok (.getfield 21, 3) := by decide +kernel
theorem dX9_count_71 : decode cX9_count 71 = .ok (.invokevirtual 129, 3) := by decide +kernel
theorem dX9_count_74 : decode cX9_count 74 = .ok (.ireturn, 1) := by decide +kernel
theorem dX9_count_75 : decode cX9_count 75 = .ok (.aload_n 0, 1) := by decide +kernel
theorem dX9_count_76 : decode cX9_count 76 = .ok (.getfield 37, 3) := by decide +kernel
theorem dX9_count_79 : decode cX9_count 79 = .ok (.ireturn, 1) := by decide +kernel
theorem dX9_count_80 : decode cX9_count 80 = .ok (.aload_n 0, 1) := by decide +kernel
theorem dX9_count_81 : decode cX9_count 81 = .ok (.getfield 33, 3) := by decide +kernel
theorem dX9_count_84 : decode cX9_count 84 = .ok (.getfield 132, 3) := by decide +kernel
theorem dX9_count_87 : decode cX9_count 87 = .ok (.ireturn, 1) := by decide +kernel
theorem dX9_count_88 : decode cX9_count 88 = .ok (.aload_n 0, 1) := by decide +kernel
theorem dX9_count_89 : decode cX9_count 89 = .ok (.getfield 33, 3) := by decide +kernel
theorem dX9_count_92 : decode cX9_count 92 = .ok (.getfield 135, 3) := by decide +kernel
theorem dX9_count_95 : decode cX9_count 95 = .ok (.ireturn, 1) := by decide +kernel
theorem dX9_count_96 : decode cX9_count 96 = .ok (.aload_n 0, 1) := by decide +kernel
theorem dX9_count_97 : decode cX9_count 97 = .ok (.getfield 33, 3) := by decide +kernel
theorem dX9_count_100 : decode cX9_count 100 = .ok (.getfield 138, 3) := by decide +kernel
theorem dX9_count_103 : decode cX9_count 103 = .ok (.ireturn, 1) := by decide +kernel
theorem dX9_count_104 : decode cX9_count 104 = .ok (.aload_n 0, 1) := by decide +kernel
theorem dX9_count_105 : decode cX9_count 105 = .ok (.getfield 21, 3) := by decide +kernel
theorem dX9_count_108 : decode cX9_count 108 = .ok (.invokevirtual 141, 3) := by decide +kernel
theorem dX9_count_111 : decode cX9_count 111 = .ok (.ireturn, 1) := by decide +kernel
theorem dX9_count_112 : decode cX9_count 112 = .ok (.aload_n 0, 1) := by decide +kernel
theorem dX9_count_113 : decode cX9_count 113 = .ok (.getfield 33, 3) := by decide +kernel
theorem dX9_count_116 : decode cX9_count 116 = .ok (.invokevirtual 144, 3) := by decide +kernel
theorem dX9_count_119 : decode cX9_count 119 = .ok (.ireturn, 1) := by decide +kernel
theorem dX9_count_120 : decode cX9_count 120 = .ok (.aload_n 0, 1) := by decide +kernel
theorem dX9_count_121 : decode cX9_count 121 = .ok (.getfield 21, 3) := by decide +kernel
theorem dX9_count_124 : decode cX9_count 124 = .ok (.invokevirtual 120, 3) := by decide +kernel
theorem dX9_count_127 : decode cX9_count 127 = .ok (.ireturn, 1) := by decide +kernel
theorem dX9_count_128 : decode cX9_count 128 = .ok (.bipush (-2), 2) := by decide +kernel
theorem dX9_count_130 : decode cX9_count 130 = .ok (.ireturn, 1) := by decide +kernel
theorem dX9_same_0 : decode cX9_same 0 = .ok (.aload_n 0, 1) := by decide +kernel
theorem dX9_same_1 : decode cX9_same 1 = .ok (.getfield 25, 3) := by decide +kernel
theorem dX9_same_4 : decode cX9_same 4 = .ok (.iload_n 1, 1) := by decide +kernel
theorem dX9_same_5 : decode cX9_same 5 = .ok (.invokevirtual 41, 3) := by decide +kernel
theorem dX9_same_8 : decode cX9_same 8 = .ok (.ifCond .eq 14, 3) := by decide +kernel
theorem dX9_same_11 : decode cX9_same 11 = .ok (.aload_n 0, 1) := by decide +kernel
theorem dX9_same_12 : decode cX9_same 12 = .ok (.getfield 25, 3) := by decide +kernel
theorem dX9_same_15 : decode cX9_same 15 = .ok (.iload_n 2, 1) := by decide +kernel
theorem dX9_same_16 : decode cX9_same 16 = .ok (.invokevirtual 41, 3) := by decide +kernel
theorem dX9_same_19 : decode cX9_same 19 = .ok (.ifCond .ne 6, 3) := by decide +kernel
theorem dX9_same_22 : decode cX9_same 22 = .ok (.bipush (-2), 2) := by decide +kernel
theorem dX9_same_24 : decode cX9_same 24 = .ok (.ireturn, 1) := by decide +kernel
theorem dX9_same_25 : decode cX9_same 25 = .ok (.aload_n 0, 1) := by decide +kernel
theorem dX9_same_26 : decode cX9_same 26 = .ok (.getfield 25, 3) := by decide +kernel
theorem dX9_same_29 : decode cX9_same 29 = .ok (.iload_n 1, 1) := by decide +kernel
theorem dX9_same_30 : decode cX9_same 30 = .ok (.invokevirtual 81, 3) := by decide +kernel
theorem dX9_same_33 : decode cX9_same 33 = .ok (.aload_n 0, 1) := by decide +kernel
theorem dX9_same_34 : decode cX9_same 34 = .ok (.getfield 25, 3) := by decide +kernel
theorem dX9_same_37 : decode cX9_same 37 = .ok (.iload_n 2, 1) := by decide +kernel
theorem dX9_same_38 : decode cX9_same 38 = .ok (.invokevirtual 81, 3) := by decide +kernel
theorem dX9_same_41 : decode cX9_same 41 = .ok (.if_acmp .ne 7, 3) := by decide +kernel
theorem dX9_same_44 : decode cX9_same 44 = .ok (.iconst 1, 1) := by decide +kernel
theorem dX9_same_45 : decode cX9_same 45 = .ok (.goto 4, 3) := by decide +kernel
theorem dX9_same_48 : decode cX9_same 48 = .ok (.iconst 0, 1) := by decide +kernel
theorem dX9_same_49 : decode cX9_same 49 = .ok (.invokestatic 96, 3) := by decide +kernel
theorem dX9_same_52 : decode cX9_same 52 = .ok (.ireturn, 1) := by decide +kernel
theorem dX9_sum_0 : decode cX9_sum 0 = .ok (.aload_n 0, 1) := by decide +kernel
theorem dX9_sum_1 : decode cX9_sum 1 = .ok (.getfield 25, 3) := by decide +kernel
theorem dX9_sum_4 : decode cX9_sum 4 = .ok (.iload_n 1, 1) := by decide +kernel
theorem dX9_sum_5 : decode cX9_sum 5 = .ok (.invokevirtual 41, 3) := by decide +kernel
theorem dX9_sum_8 : decode cX9_sum 8 = .ok (.ifCond .ne 7, 3) := by decide +kernel
theorem dX9_sum_11 : decode cX9_sum 11 = .ok (.ldc2_w 147, 3) := by decide +kernel
theorem dX9_sum_14 : decode cX9_sum 14 = .ok (.lreturn, 1) := by decide +kernel
theorem dX9_sum_15 : decode cX9_sum 15 = .ok (.aload_n 0, 1) := by decide +kernel
theorem dX9_sum_16 : decode cX9_sum 16 = .ok (.getfield 25, 3) := by decide +kernel
theorem dX9_sum_19 : decode cX9_sum 19 = .ok (.iload_n 1, 1) := by decide +kernel
theorem dX9_sum_20 : decode cX9_sum 20 = .ok (.invokevirtual 81, 3) := by decide +kernel
theorem dX9_sum_23 : decode cX9_sum 23 = .ok (.astore_n 2, 1) := by decide +kernel
theorem dX9_sum_24 : decode cX9_sum 24 = .ok (.aload_n 2, 1) := by decide +kernel
theorem dX9_sum_25 : decode cX9_sum 25 = .ok (.ifnonnull 7, 3) := by decide +kernel
theorem dX9_sum_28 : decode cX9_sum 28 = .ok (.lconst 0, 1) := by decide +kernel
theorem dX9_sum_29 : decode cX9_sum 29 = .ok (.goto 11, 3) := by decide +kernel
theorem dX9_sum_32 : decode cX9_sum 32 = .ok (.aload_n 0, 1) := by decide +kernel
theorem dX9_sum_33 : decode cX9_sum 33 = .ok (.getfield 33, 3) := by decide +kernel
theorem dX9_sum_36 : decode cX9_sum 36 = .ok (.aload_n 2, 1) := by decide +kernel
theorem dX9_sum_37 : decode cX9_sum 37 = .ok (.invokevirtual 149, 3) := by decide +kernel
theorem dX9_sum_40 : decode cX9_sum 40 = .ok (.lreturn, 1) := by decide +kernel
theorem dX9_wordsFor_0 : decode cX9_wordsFor 0 = .ok (.bipush 16, 2) := by decide +kernel
theorem dX9_wordsFor_2 : decode cX9_wordsFor 2 = .ok (.sipush 400, 3) := by decide +kernel
theorem dX9_wordsFor_5 : decode cX9_wordsFor 5 = .ok (.iload_n 0, 1) := by decide +kernel
theorem dX9_wordsFor_6 : decode cX9_wordsFor 6 = .ok (.invokestatic 153, 3) := by decide +kernel
theorem dX9_wordsFor_9 : decode cX9_wordsFor 9 = .ok (.invokestatic 158, 3) := by decide +kernel
theorem dX9_wordsFor_12 : decode cX9_wordsFor 12 = .ok (.istore_n 1, 1) := by decide +kernel
theorem dX9_wordsFor_13 : decode cX9_wordsFor 13 = .ok (.iload_n 1, 1) := by decide +kernel
theorem dX9_wordsFor_14 : decode cX9_wordsFor 14 = .ok (.iload_n 1, 1) := by decide +kernel
theorem dX9_wordsFor_15 : decode cX9_wordsFor 15 = .ok (.iconst 4, 1) := by decide +kernel
theorem dX9_wordsFor_16 : decode cX9_wordsFor 16 = .ok (.irem, 1) := by decide +kernel
theorem dX9_wordsFor_17 : decode cX9_wordsFor 17 = .ok (.isub, 1) := by decide +kernel
theorem dX9_wordsFor_18 : decode cX9_wordsFor 18 = .ok (.ireturn, 1) := by decide +kernel
theorem dX9_keeperFor_0 : decode cX9_keeperFor 0 = .ok (.iload_n 0, 1) := by decide +kernel
theorem dX9_keeperFor_1 : decode cX9_keeperFor 1 = .ok (.lookupswitch 47 #[(1, 27), (2, 37)], 27) := by decide +kernel
theorem dX9_keeperFor_28 : decode cX9_keeperFor 28 = .ok (.new 161, 3) := by decide +kernel
theorem dX9_keeperFor_31 : decode cX9_keeperFor 31 = .ok (.dup, 1) := by decide +kernel
theorem dX9_keeperFor_32 : decode cX9_keeperFor 32 = .ok (.aload_n 1, 1) := by decide +kernel
theorem dX9_keeperFor_33 : decode cX9_keeperFor 33 = .ok (.aload_n 2, 1) := by decide +kernel
theorem dX9_keeperFor_34 : decode cX9_keeperFor 34 = .ok (.invokespecial 163, 3) := by decide +kernel
theorem dX9_keeperFor_37 : decode cX9_keeperFor 37 = .ok (.areturn, 1) := by decide +kernel
theorem dX9_keeperFor_38 : decode cX9_keeperFor 38 = .ok (.new 166, 3) := by decide +kernel
theorem dX9_keeperFor_41 : decode cX9_keeperFor 41 = .ok (.dup, 1) := by decide +kernel
theorem dX9_keeperFor_42 : decode cX9_keeperFor 42 = .ok (.aload_n 1, 1) := by decide +kernel
theorem dX9_keeperFor_43 : decode cX9_keeperFor 43 = .ok (.aload_n 2, 1) := by decide +kernel
theorem dX9_keeperFor_44 : decode cX9_keeperFor 44 = .ok (.invokespecial 168, 3) := by decide +kernel
theorem dX9_keeperFor_47 : decode cX9_keeperFor 47 = .ok (.areturn, 1) := by decide +kernel
theorem dX9_keeperFor_48 : decode cX9_keeperFor 48 = .ok (.new 169, 3) := by decide +kernel
theorem dX9_keeperFor_51 : decode cX9_keeperFor 51 = .ok (.dup, 1) := by decide +kernel
theorem dX9_keeperFor_52 : decode cX9_keeperFor 52 = .ok (.aload_n 1, 1) := by decide +kernel
theorem dX9_keeperFor_53 : decode cX9_keeperFor 53 = .ok (.aload_n 2, 1) := by decide +kernel
theorem dX9_keeperFor_54 : decode cX9_keeperFor 54 = .ok (.invokespecial 171, 3) := by decide +kernel
theorem dX9_keeperFor_57 : decode cX9_keeperFor 57 = .ok (.areturn, 1) := by decide +kernel
theorem dX9_asNumber_0 : decode cX9_asNumber 0 = .ok (.iload_n 0, 1) := by decide +kernel
theorem dX9_asNumber_1 : decode cX9_asNumber 1 = .ok (.ifCond .eq 7, 3) := by decide +kernel
theorem dX9_asNumber_4 : decode cX9_asNumber 4 = .ok (.iconst 1, 1) := by decide +kernel
theorem dX9_asNumber_5 : decode cX9_asNumber 5 = .ok (.goto 4, 3) := by decide +kernel
theorem dX9_asNumber_8 : decode cX9_asNumber 8 = .ok (.iconst 0, 1) := by decide +kernel
theorem dX9_asNumber_9 : decode cX9_asNumber 9 = .ok (.ireturn, 1) := by decide +kernel
theorem dX9_nameOf_0 : decode cX9_nameOf 0 = .ok (.aload_n 0, 1) := by decide +kernel
theorem dX9_nameOf_1 : decode cX9_nameOf 1 = .ok (.ifnonnull 7, 3) := by decide +kernel
theorem dX9_nameOf_4 : decode cX9_nameOf 4 = .ok (.iconst (-1), 1) := by decide +kernel
theorem dX9_nameOf_5 : decode cX9_nameOf 5 = .ok (.goto 7, 3) := by decide +kernel
theorem dX9_nameOf_8 : decode cX9_nameOf 8 = .ok (.aload_n 0, 1) := by decide +kernel
theorem dX9_nameOf_9 : decode cX9_nameOf 9 = .ok (.getfield 66, 3) := by decide +kernel
theorem dX9_nameOf_12 : decode cX9_nameOf 12 = .ok (.ireturn, 1) := by decide +kernel
theorem dX9_holderOf_0 : decode cX9_holderOf 0 = .ok (.aload_n 0, 1) := by decide +kernel
theorem dX9_holderOf_1 : decode cX9_holderOf 1 = .ok (.getfield 25, 3) := by decide +kernel
theorem dX9_holderOf_4 : decode cX9_holderOf 4 = .ok (.iload_n 1, 1) := by decide +kernel
theorem dX9_holderOf_5 : decode cX9_holderOf 5 = .ok (.invokevirtual 81, 3) := by decide +kernel
theorem dX9_holderOf_8 : decode cX9_holderOf 8 = .ok (.astore_n 3, 1) := by decide +kernel
theorem dX9_holderOf_9 : decode cX9_holderOf 9 = .ok (.aload_n 3, 1) := by decide +kernel
theorem dX9_holderOf_10 : decode cX9_holderOf 10 = .ok (.ifnull 15, 3) := by decide +kernel
theorem dX9_holderOf_13 : decode cX9_holderOf 13 = .ok (.aload_n 3, 1) := by decide +kernel
theorem dX9_holderOf_14 : decode cX9_holderOf 14 = .ok (.iload_n 2, 1) := by decide +kernel
theorem dX9_holderOf_15 : decode cX9_holderOf 15 = .ok (.invokevirtual 172, 3) := by decide +kernel
theorem dX9_holderOf_18 : decode cX9_holderOf 18 = .ok (.ifCond .eq 7, 3) := by decide +kernel
theorem dX9_holderOf_21 : decode cX9_holderOf 21 = .ok (.aload_n 3, 1) := by decide +kernel
theorem dX9_holderOf_22 : decode cX9_holderOf 22 = .ok (.goto 4, 3) := by decide +kernel
theorem dX9_holderOf_25 : decode cX9_holderOf 25 = .ok (.aconst_null, 1) := by decide +kernel
theorem dX9_holderOf_26 : decode cX9_holderOf 26 = .ok (.areturn, 1) := by decide +kernel
theorem dX9_whyNoHolder_0 : decode cX9_whyNoHolder 0 = .ok (.aload_n 0, 1) := by decide +kernel
theorem dX9_whyNoHolder_1 : decode cX9_whyNoHolder 1 = .ok (.getfield 25, 3) := by decide +kernel
theorem dX9_whyNoHolder_4 : decode cX9_whyNoHolder 4 = .ok (.iload_n 1, 1) := by decide +kernel
theorem dX9_whyNoHolder_5 : decode cX9_whyNoHolder 5 = .ok (.invokevirtual 41, 3) := by decide +kernel
theorem dX9_whyNoHolder_8 : decode cX9_whyNoHolder 8 = .ok (.ifCond .eq 13, 3) := by decide +kernel
theorem dX9_whyNoHolder_11 : decode cX9_whyNoHolder 11 = .ok (.iload_n 2, 1) := by decide +kernel
theorem dX9_whyNoHolder_12 : decode cX9_whyNoHolder 12 = .ok (.ifCond .lt 9, 3) := by decide +kernel
theorem dX9_whyNoHolder_15 : decode cX9_whyNoHolder 15 = .ok (.iload_n 2, 1) := by decide +kernel
theorem dX9_whyNoHolder_16 : decode cX9_whyNoHolder 16 = .ok (.bipush 6, 2) := by decide +kernel
theorem dX9_whyNoHolder_18 : decode cX9_whyNoHolder 18 = .ok (.if_icmp .lt 6, 3) := by decide +kernel
theorem dX9_whyNoHolder_21 : decode cX9_whyNoHolder 21 = .ok (.bipush (-2), 2) := by decide +kernel
theorem dX9_whyNoHolder_23 : decode cX9_whyNoHolder 23 = .ok (.ireturn, 1) := by decide +kernel
theorem dX9_whyNoHolder_24 : decode cX9_whyNoHolder 24 = .ok (.aload_n 0, 1) := by decide +kernel
theorem dX9_whyNoHolder_25 : decode cX9_whyNoHolder 25 = .ok (.getfield 25, 3) := by decide +kernel
theorem dX9_whyNoHolder_28 : decode cX9_whyNoHolder 28 = .ok (.iload_n 1, 1) := by decide +kernel
theorem dX9_whyNoHolder_29 : decode cX9_whyNoHolder 29 = .ok (.invokevirtual 81, 3) := by decide +kernel
theorem dX9_whyNoHolder_32 : decode cX9_whyNoHolder 32 = .ok (.ifnonnull 8, 3) := by decide +kernel
theorem dX9_whyNoHolder_35 : decode cX9_whyNoHolder 35 = .ok (.bipush (-3), 2) := by decide +kernel
theorem dX9_whyNoHolder_37 : decode cX9_whyNoHolder 37 = .ok (.goto 5, 3) := by decide +kernel
theorem dX9_whyNoHolder_40 : decode cX9_whyNoHolder 40 = .ok (.bipush (-2), 2) := by decide +kernel
theorem dX9_whyNoHolder_42 : decode cX9_whyNoHolder 42 = .ok (.ireturn, 1) := by decide +kernel
theorem dX10_init_0 : decode cX10_init 0 = .ok (.aload_n 0, 1) := by decide +kernel
theorem dX10_init_1 : decode cX10_init 1 = .ok (.invokespecial 1, 3) := by decide +kernel
theorem dX10_init_4 : decode cX10_init 4 = .ok (.aload_n 0, 1) := by decide +kernel
theorem dX10_init_5 : decode cX10_init 5 = .ok (.sipush 2000, 3) := by decide +kernel
theorem dX10_init_8 : decode cX10_init 8 = .ok (.newarray .int, 2) := by decide +kernel
theorem dX10_init_10 : decode cX10_init 10 = .ok (.putfield 7, 3) := by decide +kernel
theorem dX10_init_13 : decode cX10_init 13 = .ok (.aload_n 0, 1) := by decide +kernel
theorem dX10_init_14 : decode cX10_init 14 = .ok (.sipush 2000, 3) := by decide +kernel
theorem dX10_init_17 : decode cX10_init 17 = .ok (.newarray .int, 2) := by decide +kernel
theorem dX10_init_19 : decode cX10_init 19 = .ok (.putfield 13, 3) := by decide +kernel
theorem dX10_init_22 : decode cX10_init 22 = .ok (.aload_n 0, 1) := by decide +kernel
theorem dX10_init_23 : decode cX10_init 23 = .ok (.sipush 2000, 3) := by decide +kernel
theorem dX10_init_26 : decode cX10_init 26 = .ok (.newarray .boolean, 2) := by decide +kernel
theorem dX10_init_28 : decode cX10_init 28 = .ok (.putfield 16, 3) := by decide +kernel
theorem dX10_init_31 : decode cX10_init 31 = .ok (.aload_n 0, 1) := by decide +kernel
theorem dX10_init_32 : decode cX10_init 32 = .ok (.sipush 12000, 3) := by decide +kernel
theorem dX10_init_35 : decode cX10_init 35 = .ok (.newarray .int, 2) := by decide +kernel
theorem dX10_init_37 : decode cX10_init 37 = .ok (.putfield 20, 3) := by decide +kernel
theorem dX10_init_40 : decode cX10_init 40 = .ok (.aload_n 0, 1) := by decide +kernel
theorem dX10_init_41 : decode cX10_init 41 = .ok (.sipush 12000, 3) := by decide +kernel
theorem dX10_init_44 : decode cX10_init 44 = .ok (.newarray .int, 2) := by decide +kernel
theorem dX10_init_46 : decode cX10_init 46 = .ok (.putfield 23, 3) := by decide +kernel
theorem dX10_init_49 : decode cX10_init 49 = .ok (.aload_n 0, 1) := by decide +kernel
theorem dX10_init_50 : decode cX10_init 50 = .ok (.bipush 16, 2) := by decide +kernel
theorem dX10_init_52 : decode cX10_init 52 = .ok (.newarray .int, 2) := by decide +kernel
theorem dX10_init_54 : decode cX10_init 54 = .ok (.putfield 26, 3) := by decide +kernel
theorem dX10_init_57 : decode cX10_init 57 = .ok (.aload_n 0, 1) := by decide +kernel
theorem dX10_init_58 : decode cX10_init 58 = .ok (.sipush 400, 3) := by decide +kernel
theorem dX10_init_61 : decode cX10_init 61 = .ok (.newarray .int, 2) := by decide +kernel
theorem dX10_init_63 : decode cX10_init 63 = .ok (.putfield 29, 3) := by decide +kernel
theorem dX10_init_66 : decode cX10_init 66 = .ok (.aload_n 0, 1) := by decide +kernel
theorem dX10_init_67 : decode cX10_init 67 = .ok (.sipush 400, 3) := by decide +kernel
theorem dX10_init_70 : decode cX10_init 70 = .ok (.newarray .int, 2) := by decide +kernel
theorem dX10_init_72 : decode cX10_init 72 = .ok (.putfield 32, 3) := by decide +kernel
theorem dX10_init_75 : decode cX10_init 75 = .ok (.aload_n 0, 1) := by decide +kernel
theorem dX10_init_76 : decode cX10_init 76 = .ok (.sipush 2000, 3) := by decide +kernel
theorem dX10_init_79 : decode cX10_init 79 = .ok (.newarray .int, 2) := by decide +kernel
theorem dX10_init_81 : decode cX10_init 81 = .ok (.putfield 35, 3) := by decide +kernel
theorem dX10_init_84 : decode cX10_init 84 = .ok (.aload_n 0, 1) := by decide +kernel
theorem dX10_init_85 : decode cX10_init 85 = .ok (.sipush 400, 3) := by decide +kernel
theorem dX10_init_88 : decode cX10_init 88 = .ok (.newarray .int, 2) := by decide +kernel
theorem dX10_init_90 : decode cX10_init 90 = .ok (.putfield 38, 3) := by decide +kernel
theorem dX10_init_93 : decode cX10_init 93 = .ok (.aload_n 0, 1) := by decide +kernel
theorem dX10_init_94 : decode cX10_init 94 = .ok (.iload_n 1, 1) := by decide +kernel
theorem dX10_init_95 : decode cX10_init 95 = .ok (.ifCond .lt 8, 3) := by decide +kernel
theorem dX10_init_98 : decode cX10_init 98 = .ok (.iload_n 1, 1) := by decide +kernel
theorem dX10_init_99 : decode cX10_init 99 = .ok (.iconst 2, 1) := by decide +kernel
theorem dX10_init_100 : decode cX10_init 100 = .ok (.if_icmp .le 7, 3) := by decide +kernel
theorem dX10_init_103 : decode cX10_init 103 = .ok (.iconst 0, 1) := by decide +kernel
theorem dX10_init_104 : decode cX10_init 104 = .ok (.goto 4, 3) := by decide +kernel
theorem dX10_init_107 : decode cX10_init 107 = .ok (.iload_n 1, 1) := by decide +kernel
theorem dX10_init_108 : decode cX10_init 108 = .ok (.putfield 41, 3) := by decide +kernel
theorem dX10_init_111 : decode cX10_init 111 = .ok (.iload_n 2, 1) := by decide +kernel
theorem dX10_init_112 : decode cX10_init 112 = .ok (.bipush 16, 2) := by decide +kernel
theorem dX10_init_114 : decode cX10_init 114 = .ok (.if_icmp .ge 8, 3) := by decide +kernel
theorem dX10_init_117 : decode cX10_init 117 = .ok (.bipush 16, 2) := by decide +kernel
theorem dX10_init_119 : decode cX10_init 119 = .ok (.goto 17, 3) := by decide +kernel
theorem dX10_init_122 : decode cX10_init 122 = .ok (.iload_n 2, 1) := by decide +kernel
theorem dX10_init_123 : decode cX10_init 123 = .ok (.sipush 400, 3) := by decide +kernel
theorem dX10_init_126 : decode cX10_init 126 = .ok (.if_icmp .le 9, 3) := by decide +kernel
theorem dX10_init_129 : decode cX10_init 129 = .ok (.sipush 400, 3) := by decide +kernel
theorem dX10_init_132 : decode cX10_init 132 = .ok (.goto 4, 3) := by decide +kernel
theorem dX10_init_135 : decode cX10_init 135 = .ok (.iload_n 2, 1) := by decide +kernel
theorem dX10_init_136 : decode cX10_init 136 = .ok (.istore_n 3, 1) := by decide +kernel
theorem dX10_init_137 : decode cX10_init 137 = .ok (.aload_n 0, 1) := by decide +kernel
theorem dX10_init_138 : decode cX10_init 138 = .ok (.iload_n 3, 1) := by decide +kernel
theorem dX10_init_139 : decode cX10_init 139 = .ok (.iload_n 3, 1) := by decide +kernel
theorem dX10_init_140 : decode cX10_init 140 = .ok (.iconst 4, 1) := by decide +kernel
theorem dX10_init_141 : decode cX10_init 141 = .ok (.irem, 1) := by decide +kernel
theorem dX10_init_142 : decode cX10_init 142 = .ok (.isub, 1) := by decide +kernel
theorem dX10_init_143 : decode cX10_init 143 = .ok (.putfield 45, 3) := by decide +kernel
theorem dX10_init_146 : decode cX10_init 146 = .ok (.iconst 0, 1) := by decide +kernel
theorem dX10_init_147 : decode cX10_init 147 = .ok (.istore 4, 2) := by decide +kernel
theorem dX10_init_149 : decode cX10_init 149 = .ok (.iload 4, 2) := by decide +kernel
theorem dX10_init_151 : decode cX10_init 151 = .ok (.sipush 400, 3) := by decide +kernel
theorem dX10_init_154 : decode cX10_init 154 = .ok (.if_icmp .ge 17, 3) := by decide +kernel
theorem dX10_init_157 : decode cX10_init 157 = .ok (.aload_n 0, 1) := by decide +kernel
theorem dX10_init_158 : decode cX10_init 158 = .ok (.getfield 29, 3) := by decide +kernel
theorem dX10_init_161 : decode cX10_init 161 = .ok (.iload 4, 2) := by decide +kernel
theorem dX10_init_163 : decode cX10_init 163 = .ok (.iconst (-1), 1) := by decide +kernel
theorem dX10_init_164 : decode cX10_init 164 = .ok (.iastore, 1) := by decide +kernel
theorem dX10_init_165 : decode cX10_init 165 = .ok (.iinc 4 1, 3) := by decide +kernel
theorem dX10_init_168 : decode cX10_init 168 = .ok (.goto (-19), 3) := by decide +kernel
theorem dX10_init_171 : decode cX10_init 171 = .ok (.iconst 0, 1) := by decide +kernel
theorem dX10_init_172 : decode cX10_init 172 = .ok (.istore 4, 2) := by decide +kernel
theorem dX10_init_174 : decode cX10_init 174 = .ok (.iload 4, 2) := by decide +kernel
theorem dX10_init_176 : decode cX10_init 176 = .ok (.bipush 16, 2) := by decide +kernel
theorem dX10_init_178 : decode cX10_init 178 = .ok (.if_icmp .ge 17, 3) := by decide +kernel
theorem dX10_init_181 : decode cX10_init 181 = .ok (.aload_n 0, 1) := by decide +kernel
theorem dX10_init_182 : decode cX10_init 182 = .ok (.getfield 26, 3) := by decide +kernel
theorem dX10_init_185 : decode cX10_init 185 = .ok (.iload 4, 2) := by decide +kernel
theorem dX10_init_187 : decode cX10_init 187 = .ok (.iconst (-1), 1) := by decide +kernel
theorem dX10_init_188 : decode cX10_init 188 = .ok (.iastore, 1) := by decide +kernel
theorem dX10_init_189 : decode cX10_init 189 = .ok (.iinc 4 1, 3) := by decide +kernel
theorem dX10_init_192 : decode cX10_init 192 = .ok (.goto (-18), 3) := by decide +kernel
theorem dX10_init_195 : decode cX10_init 195 = .ok (.return_, 1) := by decide +kernel
theorem dX10_in_0 : decode cX10_in 0 = .ok (.iload_n 0, 1) := by decide +kernel
theorem dX10_in_1 : decode cX10_in 1 = .ok (.iload_n 1, 1) := by decide +kernel
theorem dX10_in_2 : decode cX10_in 2 = .ok (.if_icmp .lt 12, 3) := by decide +kernel
theorem dX10_in_5 : decode cX10_in 5 = .ok (.iload_n 0, 1) := by decide +kernel
theorem dX10_in_6 : decode cX10_in 6 = .ok (.iload_n 2, 1) := by decide +kernel
theorem dX10_in_7 : decode cX10_in 7 = .ok (.if_icmp .gt 7, 3) := by decide +kernel
theorem dX10_in_10 : decode cX10_in 10 = .ok (.iconst 1, 1) := by decide +kernel
theorem dX10_in_11 : decode cX10_in 11 = .ok (.goto 4, 3) := by decide +kernel
theorem dX10_in_14 : decode cX10_in 14 = .ok (.iconst 0, 1) := by decide +kernel
theorem dX10_in_15 : decode cX10_in 15 = .ok (.ireturn, 1) := by decide +kernel
theorem dX10_isRoot_0 : decode cX10_isRoot 0 = .ok (.iload_n 0, 1) := by decide +kernel
theorem dX10_isRoot_1 : decode cX10_isRoot 1 = .ok (.iconst 0, 1) := by decide +kernel
theorem dX10_isRoot_2 : decode cX10_isRoot 2 = .ok (.bipush 15, 2) := by decide +kernel
theorem dX10_isRoot_4 : decode cX10_isRoot 4 = .ok (.invokestatic 51, 3) := by decide +kernel
theorem dX10_isRoot_7 : decode cX10_isRoot 7 = .ok (.ireturn, 1) := by decide +kernel
theorem dX10_isOld_0 : decode cX10_isOld 0 = .ok (.aload_n 0, 1) := by decide +kernel
theorem dX10_isOld_1 : decode cX10_isOld 1 = .ok (.getfield 41, 3) := by decide +kernel
theorem dX10_isOld_4 : decode cX10_isOld 4 = .ok (.iconst 2, 1) := by decide +kernel
theorem dX10_isOld_5 : decode cX10_isOld 5 = .ok (.if_icmp .ne 22, 3) := by decide +kernel
theorem dX10_isOld_8 : decode cX10_isOld 8 = .ok (.aload_n 0, 1) := by decide +kernel
theorem dX10_isOld_9 : decode cX10_isOld 9 = .ok (.getfield 7, 3) := by decide +kernel
theorem dX10_isOld_12 : decode cX10_isOld 12 = .ok (.iload_n 1, 1) := by decide +kernel
theorem dX10_isOld_13 : decode cX10_isOld 13 = .ok (.iaload, 1) := by decide +kernel
theorem dX10_isOld_14 : decode cX10_isOld 14 = .ok (.aload_n 0, 1) := by decide +kernel
theorem dX10_isOld_15 : decode cX10_isOld 15 = .ok (.getfield 45, 3) := by decide +kernel
theorem dX10_isOld_18 : decode cX10_isOld 18 = .ok (.iconst 4, 1) := by decide +kernel
theorem dX10_isOld_19 : decode cX10_isOld 19 = .ok (.idiv, 1) := by decide +kernel
theorem dX10_isOld_20 : decode cX10_isOld 20 = .ok (.if_icmp .lt 7, 3) := by decide +kernel
theorem dX10_isOld_23 : decode cX10_isOld 23 = .ok (.iconst 1, 1) := by decide +kernel
theorem dX10_isOld_24 : decode cX10_isOld 24 = .ok (.goto 4, 3) := by decide +kernel
theorem dX10_isOld_27 : decode cX10_isOld 27 = .ok (.iconst 0, 1) := by decide +kernel
theorem dX10_isOld_28 : decode cX10_isOld 28 = .ok (.ireturn, 1) := by decide +kernel
theorem dX10_lie_0 : decode cX10_lie 0 = .ok (.aload_n 0, 1) := by decide +kernel
theorem dX10_lie_1 : decode cX10_lie 1 = .ok (.getfield 7, 3) := by decide +kernel
theorem dX10_lie_4 : decode cX10_lie 4 = .ok (.iload_n 1, 1) := by decide +kernel
theorem dX10_lie_5 : decode cX10_lie 5 = .ok (.iload_n 2, 1) := by decide +kernel
theorem dX10_lie_6 : decode cX10_lie 6 = .ok (.iastore, 1) := by decide +kernel
theorem dX10_lie_7 : decode cX10_lie 7 = .ok (.iconst 0, 1) := by decide +kernel
theorem dX10_lie_8 : decode cX10_lie 8 = .ok (.istore_n 3, 1) := by decide +kernel
theorem dX10_lie_9 : decode cX10_lie 9 = .ok (.iload_n 3, 1) := by decide +kernel
theorem dX10_lie_10 : decode cX10_lie 10 = .ok (.aload_n 0, 1) := by decide +kernel
theorem dX10_lie_11 : decode cX10_lie 11 = .ok (.getfield 13, 3) := by decide +kernel
theorem dX10_lie_14 : decode cX10_lie 14 = .ok (.iload_n 1, 1) := by decide +kernel
theorem dX10_lie_15 : decode cX10_lie 15 = .ok (.iaload, 1) := by decide +kernel
theorem dX10_lie_16 : decode cX10_lie 16 = .ok (.if_icmp .gt 18, 3) := by decide +kernel
theorem dX10_lie_19 : decode cX10_lie 19 = .ok (.aload_n 0, 1) := by decide +kernel
theorem dX10_lie_20 : decode cX10_lie 20 = .ok (.getfield 29, 3) := by decide +kernel
theorem dX10_lie_23 : decode cX10_lie 23 = .ok (.iload_n 2, 1) := by decide +kernel
theorem dX10_lie_24 : decode cX10_lie 24 = .ok (.iload_n 3, 1) := by decide +kernel
theorem dX10_lie_25 : decode cX10_lie 25 = .ok (.iadd, 1) := by decide +kernel
theorem dX10_lie_26 : decode cX10_lie 26 = .ok (.iload_n 1, 1) := by decide +kernel
theorem dX10_lie_27 : decode cX10_lie 27 = .ok (.iastore, 1) := by decide +kernel
theorem dX10_lie_28 : decode cX10_lie 28 = .ok (.iinc 3 1, 3) := by decide +kernel
theorem dX10_lie_31 : decode cX10_lie 31 = .ok (.goto (-22), 3) := by decide +kernel
theorem dX10_lie_34 : decode cX10_lie 34 = .ok (.return_, 1) := by decide +kernel
theorem dX10_leave_0 : decode cX10_leave 0 = .ok (.iconst 0, 1) := by decide +kernel
theorem dX10_leave_1 : decode cX10_leave 1 = .ok (.istore_n 2, 1) := by decide +kernel
theorem dX10_leave_2 : decode cX10_leave 2 = .ok (.iload_n 2, 1) := by decide +kernel
theorem dX10_leave_3 : decode cX10_leave 3 = .ok (.aload_n 0, 1) := by decide +kernel
theorem dX10_leave_4 : decode cX10_leave 4 = .ok (.getfield 13, 3) := by decide +kernel
theorem dX10_leave_7 : decode cX10_leave 7 = .ok (.iload_n 1, 1) := by decide +kernel
theorem dX10_leave_8 : decode cX10_leave 8 = .ok (.iaload, 1) := by decide +kernel
theorem dX10_leave_9 : decode cX10_leave 9 = .ok (.if_icmp .gt 23, 3) := by decide +kernel
theorem dX10_leave_12 : decode cX10_leave 12 = .ok (.aload_n 0, 1) := by decide +kernel
theorem dX10_leave_13 : decode cX10_leave 13 = .ok (.getfield 29, 3) := by decide +kernel
theorem dX10_leave_16 : decode cX10_leave 16 = .ok (.aload_n 0, 1) := by decide +kernel
theorem dX10_leave_17 : decode cX10_leave 17 = .ok (.getfield 7, 3) := by decide +kernel
theorem dX10_leave_20 : decode cX10_leave 20 = .ok (.iload_n 1, 1) := by decide +kernel
theorem dX10_leave_21 : decode cX10_leave 21 = .ok (.iaload, 1) := by decide +kernel
theorem dX10_leave_22 : decode cX10_leave 22 = .ok (.iload_n 2, 1) := by decide +kernel
theorem dX10_leave_23 : decode cX10_leave 23 = .ok (.iadd, 1) := by decide +kernel
theorem dX10_leave_24 : decode cX10_leave 24 = .ok (.iconst (-1), 1) := by decide +kernel
theorem dX10_leave_25 : decode cX10_leave 25 = .ok (.iastore, 1) := by decide +kernel
theorem dX10_leave_26 : decode cX10_leave 26 = .ok (.iinc 2 1, 3) := by decide +kernel
theorem dX10_leave_29 : decode cX10_leave 29 = .ok (.goto (-27), 3) := by decide +kernel
theorem dX10_leave_32 : decode cX10_leave 32 = .ok (.return_, 1) := by decide +kernel
theorem dX10_go_0 : decode cX10_go 0 = .ok (.aload_n 0, 1) := by decide +kernel
theorem dX10_go_1 : decode cX10_go 1 = .ok (.iload_n 1, 1) := by decide +kernel
theorem dX10_go_2 : decode cX10_go 2 = .ok (.invokevirtual 55, 3) := by decide +kernel
theorem dX10_go_5 : decode cX10_go 5 = .ok (.aload_n 0, 1) := by decide +kernel
theorem dX10_go_6 : decode cX10_go 6 = .ok (.getfield 7, 3) := by decide +kernel
theorem dX10_go_9 : decode cX10_go 9 = .ok (.iload_n 1, 1) := by decide +kernel
theorem dX10_go_10 : decode cX10_go 10 = .ok (.iconst (-1), 1) := by decide +kernel
theorem dX10_go_11 : decode cX10_go 11 = .ok (.iastore, 1) := by decide +kernel
theorem dX10_go_12 : decode cX10_go 12 = .ok (.aload_n 0, 1) := by decide +kernel
theorem dX10_go_13 : decode cX10_go 13 = .ok (.getfield 16, 3) := by decide +kernel
theorem dX10_go_16 : decode cX10_go 16 = .ok (.iload_n 1, 1) := by decide +kernel
theorem dX10_go_17 : decode cX10_go 17 = .ok (.iconst 0, 1) := by decide +kernel
theorem dX10_go_18 : decode cX10_go 18 = .ok (.bastore, 1) := by decide +kernel
theorem dX10_go_19 : decode cX10_go 19 = .ok (.return_, 1) := by decide +kernel
theorem dX10_fit_0 : decode cX10_fit 0 = .ok (.iconst 0, 1) := by decide +kernel
theorem dX10_fit_1 : decode cX10_fit 1 = .ok (.istore_n 3, 1) := by decide +kernel
theorem dX10_fit_2 : decode cX10_fit 2 = .ok (.iload_n 1, 1) := by decide +kernel
theorem dX10_fit_3 : decode cX10_fit 3 = .ok (.istore 4, 2) := by decide +kernel
theorem dX10_fit_5 : decode cX10_fit 5 = .ok (.iload 4, 2) := by decide +kernel
theorem dX10_fit_7 : decode cX10_fit 7 = .ok (.aload_n 0, 1) := by decide +kernel
theorem dX10_fit_8 : decode cX10_fit 8 = .ok (.getfield 45, 3) := by decide +kernel
theorem dX10_fit_11 : decode cX10_fit 11 = .ok (.if_icmp .ge 40, 3) := by decide +kernel
theorem dX10_fit_14 : decode cX10_fit 14 = .ok (.aload_n 0, 1) := by decide +kernel
theorem dX10_fit_15 : decode cX10_fit 15 = .ok (.getfield 29, 3) := by decide +kernel
theorem dX10_fit_18 : decode cX10_fit 18 = .ok (.iload 4, 2) := by decide +kernel
theorem dX10_fit_20 : decode cX10_fit 20 = .ok (.iaload, 1) := by decide +kernel
theorem dX10_fit_21 : decode cX10_fit 21 = .ok (.iconst (-1), 1) := by decide +kernel
theorem dX10_fit_22 : decode cX10_fit 22 = .ok (.if_icmp .ne 9, 3) := by decide +kernel
theorem dX10_fit_25 : decode cX10_fit 25 = .ok (.iload_n 3, 1) := by decide +kernel
theorem dX10_fit_26 : decode cX10_fit 26 = .ok (.iconst 1, 1) := by decide +kernel
theorem dX10_fit_27 : decode cX10_fit 27 = .ok (.iadd, 1) := by decide +kernel
