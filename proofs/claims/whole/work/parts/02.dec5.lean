theorem dX7_hitBy_0 : decode cX7_hitBy 0 = .ok (.aload_n 0, 1) := by decide +kernel
theorem dX7_hitBy_1 : decode cX7_hitBy 1 = .ok (.iconst 0, 1) := by decide +kernel
theorem dX7_hitBy_2 : decode cX7_hitBy 2 = .ok (.putfield 96, 3) := by decide +kernel
theorem dX7_hitBy_5 : decode cX7_hitBy 5 = .ok (.aload_n 0, 1) := by decide +kernel
theorem dX7_hitBy_6 : decode cX7_hitBy 6 = .ok (.iload_n 1, 1) := by decide +kernel
theorem dX7_hitBy_7 : decode cX7_hitBy 7 = .ok (.invokevirtual 259, 3) := by decide +kernel
theorem dX7_hitBy_10 : decode cX7_hitBy 10 = .ok (.ifCond .eq 7, 3) := by decide +kernel
theorem dX7_hitBy_13 : decode cX7_hitBy 13 = .ok (.iload_n 2, 1) := by decide +kernel
theorem dX7_hitBy_14 : decode cX7_hitBy 14 = .ok (.ifCond .ge 5, 3) := by decide +kernel
theorem dX7_hitBy_17 : decode cX7_hitBy 17 = .ok (.iconst (-1), 1) := by decide +kernel
theorem dX7_hitBy_18 : decode cX7_hitBy 18 = .ok (.ireturn, 1) := by decide +kernel
theorem dX7_hitBy_19 : decode cX7_hitBy 19 = .ok (.aload_n 0, 1) := by decide +kernel
theorem dX7_hitBy_20 : decode cX7_hitBy 20 = .ok (.invokevirtual 326, 3) := by decide +kernel
theorem dX7_hitBy_23 : decode cX7_hitBy 23 = .ok (.iload_n 2, 1) := by decide +kernel
theorem dX7_hitBy_24 : decode cX7_hitBy 24 = .ok (.istore_n 3, 1) := by decide +kernel
theorem dX7_hitBy_25 : decode cX7_hitBy 25 = .ok (.iconst 0, 1) := by decide +kernel
theorem dX7_hitBy_26 : decode cX7_hitBy 26 = .ok (.istore 4, 2) := by decide +kernel
theorem dX7_hitBy_28 : decode cX7_hitBy 28 = .ok (.iload 4, 2) := by decide +kernel
theorem dX7_hitBy_30 : decode cX7_hitBy 30 = .ok (.aload_n 0, 1) := by decide +kernel
theorem dX7_hitBy_31 : decode cX7_hitBy 31 = .ok (.getfield 280, 3) := by decide +kernel
theorem dX7_hitBy_34 : decode cX7_hitBy 34 = .ok (.if_icmp .ge 32, 3) := by decide +kernel
theorem dX7_hitBy_37 : decode cX7_hitBy 37 = .ok (.aload_n 0, 1) := by decide +kernel
theorem dX7_hitBy_38 : decode cX7_hitBy 38 = .ok (.iload 4, 2) := by decide +kernel
theorem dX7_hitBy_40 : decode cX7_hitBy 40 = .ok (.iload_n 1, 1) := by decide +kernel
theorem dX7_hitBy_41 : decode cX7_hitBy 41 = .ok (.invokevirtual 305, 3) := by decide +kernel
theorem dX7_hitBy_44 : decode cX7_hitBy 44 = .ok (.ifCond .ne 6, 3) := by decide +kernel
theorem dX7_hitBy_47 : decode cX7_hitBy 47 = .ok (.goto 13, 3) := by decide +kernel
theorem dX7_hitBy_50 : decode cX7_hitBy 50 = .ok (.iload_n 3, 1) := by decide +kernel
theorem dX7_hitBy_51 : decode cX7_hitBy 51 = .ok (.ifCond .ne 6, 3) := by decide +kernel
theorem dX7_hitBy_54 : decode cX7_hitBy 54 = .ok (.iload 4, 2) := by decide +kernel
theorem dX7_hitBy_56 : decode cX7_hitBy 56 = .ok (.ireturn, 1) := by decide +kernel
theorem dX7_hitBy_57 : decode cX7_hitBy 57 = .ok (.iinc 3 (-1), 3) := by decide +kernel
theorem dX7_hitBy_60 : decode cX7_hitBy 60 = .ok (.iinc 4 1, 3) := by decide +kernel
theorem dX7_hitBy_63 : decode cX7_hitBy 63 = .ok (.goto (-35), 3) := by decide +kernel
theorem dX7_hitBy_66 : decode cX7_hitBy 66 = .ok (.bipush (-2), 2) := by decide +kernel
theorem dX7_hitBy_68 : decode cX7_hitBy 68 = .ok (.ireturn, 1) := by decide +kernel
theorem dX7_crowds_0 : decode cX7_crowds 0 = .ok (.aload_n 0, 1) := by decide +kernel
theorem dX7_crowds_1 : decode cX7_crowds 1 = .ok (.iconst 0, 1) := by decide +kernel
theorem dX7_crowds_2 : decode cX7_crowds 2 = .ok (.putfield 96, 3) := by decide +kernel
theorem dX7_crowds_5 : decode cX7_crowds 5 = .ok (.aload_n 0, 1) := by decide +kernel
theorem dX7_crowds_6 : decode cX7_crowds 6 = .ok (.iload_n 1, 1) := by decide +kernel
theorem dX7_crowds_7 : decode cX7_crowds 7 = .ok (.invokevirtual 259, 3) := by decide +kernel
theorem dX7_crowds_10 : decode cX7_crowds 10 = .ok (.ifCond .eq 11, 3) := by decide +kernel
theorem dX7_crowds_13 : decode cX7_crowds 13 = .ok (.aload_n 0, 1) := by decide +kernel
theorem dX7_crowds_14 : decode cX7_crowds 14 = .ok (.iload_n 1, 1) := by decide +kernel
theorem dX7_crowds_15 : decode cX7_crowds 15 = .ok (.invokevirtual 317, 3) := by decide +kernel
theorem dX7_crowds_18 : decode cX7_crowds 18 = .ok (.goto 4, 3) := by decide +kernel
theorem dX7_crowds_21 : decode cX7_crowds 21 = .ok (.iconst (-1), 1) := by decide +kernel
theorem dX7_crowds_22 : decode cX7_crowds 22 = .ok (.ireturn, 1) := by decide +kernel
theorem dX7_clean_0 : decode cX7_clean 0 = .ok (.aload_n 0, 1) := by decide +kernel
theorem dX7_clean_1 : decode cX7_clean 1 = .ok (.iconst 0, 1) := by decide +kernel
theorem dX7_clean_2 : decode cX7_clean 2 = .ok (.putfield 96, 3) := by decide +kernel
theorem dX7_clean_5 : decode cX7_clean 5 = .ok (.aload_n 0, 1) := by decide +kernel
theorem dX7_clean_6 : decode cX7_clean 6 = .ok (.invokevirtual 332, 3) := by decide +kernel
theorem dX7_clean_9 : decode cX7_clean 9 = .ok (.ifCond .eq 7, 3) := by decide +kernel
theorem dX7_clean_12 : decode cX7_clean 12 = .ok (.iconst 1, 1) := by decide +kernel
theorem dX7_clean_13 : decode cX7_clean 13 = .ok (.goto 4, 3) := by decide +kernel
theorem dX7_clean_16 : decode cX7_clean 16 = .ok (.iconst 0, 1) := by decide +kernel
theorem dX7_clean_17 : decode cX7_clean 17 = .ok (.ireturn, 1) := by decide +kernel
theorem dX7_fitsAt_0 : decode cX7_fitsAt 0 = .ok (.aload_n 0, 1) := by decide +kernel
theorem dX7_fitsAt_1 : decode cX7_fitsAt 1 = .ok (.getfield 51, 3) := by decide +kernel
theorem dX7_fitsAt_4 : decode cX7_fitsAt 4 = .ok (.iconst 0, 1) := by decide +kernel
theorem dX7_fitsAt_5 : decode cX7_fitsAt 5 = .ok (.iload_n 1, 1) := by decide +kernel
theorem dX7_fitsAt_6 : decode cX7_fitsAt 6 = .ok (.iadd, 1) := by decide +kernel
theorem dX7_fitsAt_7 : decode cX7_fitsAt 7 = .ok (.iaload, 1) := by decide +kernel
theorem dX7_fitsAt_8 : decode cX7_fitsAt 8 = .ok (.istore_n 3, 1) := by decide +kernel
theorem dX7_fitsAt_9 : decode cX7_fitsAt 9 = .ok (.aload_n 0, 1) := by decide +kernel
theorem dX7_fitsAt_10 : decode cX7_fitsAt 10 = .ok (.getfield 51, 3) := by decide +kernel
theorem dX7_fitsAt_13 : decode cX7_fitsAt 13 = .ok (.iconst 0, 1) := by decide +kernel
theorem dX7_fitsAt_14 : decode cX7_fitsAt 14 = .ok (.iload_n 1, 1) := by decide +kernel
theorem dX7_fitsAt_15 : decode cX7_fitsAt 15 = .ok (.iadd, 1) := by decide +kernel
theorem dX7_fitsAt_16 : decode cX7_fitsAt 16 = .ok (.iload_n 2, 1) := by decide +kernel
theorem dX7_fitsAt_17 : decode cX7_fitsAt 17 = .ok (.iastore, 1) := by decide +kernel
theorem dX7_fitsAt_18 : decode cX7_fitsAt 18 = .ok (.aload_n 0, 1) := by decide +kernel
theorem dX7_fitsAt_19 : decode cX7_fitsAt 19 = .ok (.invokevirtual 332, 3) := by decide +kernel
theorem dX7_fitsAt_22 : decode cX7_fitsAt 22 = .ok (.istore 4, 2) := by decide +kernel
theorem dX7_fitsAt_24 : decode cX7_fitsAt 24 = .ok (.aload_n 0, 1) := by decide +kernel
theorem dX7_fitsAt_25 : decode cX7_fitsAt 25 = .ok (.getfield 51, 3) := by decide +kernel
theorem dX7_fitsAt_28 : decode cX7_fitsAt 28 = .ok (.iconst 0, 1) := by decide +kernel
theorem dX7_fitsAt_29 : decode cX7_fitsAt 29 = .ok (.iload_n 1, 1) := by decide +kernel
theorem dX7_fitsAt_30 : decode cX7_fitsAt 30 = .ok (.iadd, 1) := by decide +kernel
theorem dX7_fitsAt_31 : decode cX7_fitsAt 31 = .ok (.iload_n 3, 1) := by decide +kernel
theorem dX7_fitsAt_32 : decode cX7_fitsAt 32 = .ok (.iastore, 1) := by decide +kernel
theorem dX7_fitsAt_33 : decode cX7_fitsAt 33 = .ok (.iload 4, 2) := by decide +kernel
theorem dX7_fitsAt_35 : decode cX7_fitsAt 35 = .ok (.ireturn, 1) := by decide +kernel
theorem dX7_fits_0 : decode cX7_fits 0 = .ok (.aload_n 0, 1) := by decide +kernel
theorem dX7_fits_1 : decode cX7_fits 1 = .ok (.iconst 0, 1) := by decide +kernel
theorem dX7_fits_2 : decode cX7_fits 2 = .ok (.putfield 96, 3) := by decide +kernel
theorem dX7_fits_5 : decode cX7_fits 5 = .ok (.aload_n 0, 1) := by decide +kernel
theorem dX7_fits_6 : decode cX7_fits 6 = .ok (.iload_n 1, 1) := by decide +kernel
theorem dX7_fits_7 : decode cX7_fits 7 = .ok (.invokevirtual 259, 3) := by decide +kernel
theorem dX7_fits_10 : decode cX7_fits 10 = .ok (.ifCond .eq 11, 3) := by decide +kernel
theorem dX7_fits_13 : decode cX7_fits 13 = .ok (.aload_n 0, 1) := by decide +kernel
theorem dX7_fits_14 : decode cX7_fits 14 = .ok (.iload_n 2, 1) := by decide +kernel
theorem dX7_fits_15 : decode cX7_fits 15 = .ok (.invokevirtual 262, 3) := by decide +kernel
theorem dX7_fits_18 : decode cX7_fits 18 = .ok (.ifCond .ne 5, 3) := by decide +kernel
theorem dX7_fits_21 : decode cX7_fits 21 = .ok (.iconst (-1), 1) := by decide +kernel
theorem dX7_fits_22 : decode cX7_fits 22 = .ok (.ireturn, 1) := by decide +kernel
theorem dX7_fits_23 : decode cX7_fits 23 = .ok (.aload_n 0, 1) := by decide +kernel
theorem dX7_fits_24 : decode cX7_fits 24 = .ok (.iload_n 1, 1) := by decide +kernel
theorem dX7_fits_25 : decode cX7_fits 25 = .ok (.iload_n 2, 1) := by decide +kernel
theorem dX7_fits_26 : decode cX7_fits 26 = .ok (.invokevirtual 387, 3) := by decide +kernel
theorem dX7_fits_29 : decode cX7_fits 29 = .ok (.ifCond .eq 7, 3) := by decide +kernel
theorem dX7_fits_32 : decode cX7_fits 32 = .ok (.iconst 1, 1) := by decide +kernel
theorem dX7_fits_33 : decode cX7_fits 33 = .ok (.goto 4, 3) := by decide +kernel
theorem dX7_fits_36 : decode cX7_fits 36 = .ok (.iconst 0, 1) := by decide +kernel
theorem dX7_fits_37 : decode cX7_fits 37 = .ok (.ireturn, 1) := by decide +kernel
theorem dX7_free_0 : decode cX7_free 0 = .ok (.aload_n 0, 1) := by decide +kernel
theorem dX7_free_1 : decode cX7_free 1 = .ok (.iconst 0, 1) := by decide +kernel
theorem dX7_free_2 : decode cX7_free 2 = .ok (.putfield 96, 3) := by decide +kernel
theorem dX7_free_5 : decode cX7_free 5 = .ok (.aload_n 0, 1) := by decide +kernel
theorem dX7_free_6 : decode cX7_free 6 = .ok (.iload_n 1, 1) := by decide +kernel
theorem dX7_free_7 : decode cX7_free 7 = .ok (.invokevirtual 259, 3) := by decide +kernel
theorem dX7_free_10 : decode cX7_free 10 = .ok (.ifCond .ne 5, 3) := by decide +kernel
theorem dX7_free_13 : decode cX7_free 13 = .ok (.iconst (-1), 1) := by decide +kernel
theorem dX7_free_14 : decode cX7_free 14 = .ok (.ireturn, 1) := by decide +kernel
theorem dX7_free_15 : decode cX7_free 15 = .ok (.iconst 0, 1) := by decide +kernel
theorem dX7_free_16 : decode cX7_free 16 = .ok (.istore_n 2, 1) := by decide +kernel
theorem dX7_free_17 : decode cX7_free 17 = .ok (.iconst 1, 1) := by decide +kernel
theorem dX7_free_18 : decode cX7_free 18 = .ok (.istore_n 3, 1) := by decide +kernel
theorem dX7_free_19 : decode cX7_free 19 = .ok (.iload_n 3, 1) := by decide +kernel
theorem dX7_free_20 : decode cX7_free 20 = .ok (.aload_n 0, 1) := by decide +kernel
theorem dX7_free_21 : decode cX7_free 21 = .ok (.getfield 238, 3) := by decide +kernel
theorem dX7_free_24 : decode cX7_free 24 = .ok (.if_icmp .gt 26, 3) := by decide +kernel
theorem dX7_free_27 : decode cX7_free 27 = .ok (.iload_n 2, 1) := by decide +kernel
theorem dX7_free_28 : decode cX7_free 28 = .ok (.aload_n 0, 1) := by decide +kernel
theorem dX7_free_29 : decode cX7_free 29 = .ok (.iload_n 1, 1) := by decide +kernel
theorem dX7_free_30 : decode cX7_free 30 = .ok (.iload_n 3, 1) := by decide +kernel
theorem dX7_free_31 : decode cX7_free 31 = .ok (.invokevirtual 387, 3) := by decide +kernel
theorem dX7_free_34 : decode cX7_free 34 = .ok (.ifCond .eq 7, 3) := by decide +kernel
theorem dX7_free_37 : decode cX7_free 37 = .ok (.iconst 1, 1) := by decide +kernel
theorem dX7_free_38 : decode cX7_free 38 = .ok (.goto 4, 3) := by decide +kernel
theorem dX7_free_41 : decode cX7_free 41 = .ok (.iconst 0, 1) := by decide +kernel
theorem dX7_free_42 : decode cX7_free 42 = .ok (.iadd, 1) := by decide +kernel
theorem dX7_free_43 : decode cX7_free 43 = .ok (.istore_n 2, 1) := by decide +kernel
theorem dX7_free_44 : decode cX7_free 44 = .ok (.iinc 3 1, 3) := by decide +kernel
theorem dX7_free_47 : decode cX7_free 47 = .ok (.goto (-28), 3) := by decide +kernel
theorem dX7_free_50 : decode cX7_free 50 = .ok (.iload_n 2, 1) := by decide +kernel
theorem dX7_free_51 : decode cX7_free 51 = .ok (.ireturn, 1) := by decide +kernel
theorem dX7_freeAt_0 : decode cX7_freeAt 0 = .ok (.aload_n 0, 1) := by decide +kernel
theorem dX7_freeAt_1 : decode cX7_freeAt 1 = .ok (.iconst 0, 1) := by decide +kernel
theorem dX7_freeAt_2 : decode cX7_freeAt 2 = .ok (.putfield 96, 3) := by decide +kernel
theorem dX7_freeAt_5 : decode cX7_freeAt 5 = .ok (.aload_n 0, 1) := by decide +kernel
theorem dX7_freeAt_6 : decode cX7_freeAt 6 = .ok (.iload_n 1, 1) := by decide +kernel
theorem dX7_freeAt_7 : decode cX7_freeAt 7 = .ok (.invokevirtual 259, 3) := by decide +kernel
theorem dX7_freeAt_10 : decode cX7_freeAt 10 = .ok (.ifCond .eq 7, 3) := by decide +kernel
theorem dX7_freeAt_13 : decode cX7_freeAt 13 = .ok (.iload_n 2, 1) := by decide +kernel
theorem dX7_freeAt_14 : decode cX7_freeAt 14 = .ok (.ifCond .ge 5, 3) := by decide +kernel
theorem dX7_freeAt_17 : decode cX7_freeAt 17 = .ok (.iconst (-1), 1) := by decide +kernel
theorem dX7_freeAt_18 : decode cX7_freeAt 18 = .ok (.ireturn, 1) := by decide +kernel
theorem dX7_freeAt_19 : decode cX7_freeAt 19 = .ok (.iload_n 2, 1) := by decide +kernel
theorem dX7_freeAt_20 : decode cX7_freeAt 20 = .ok (.istore_n 3, 1) := by decide +kernel
theorem dX7_freeAt_21 : decode cX7_freeAt 21 = .ok (.iconst 1, 1) := by decide +kernel
theorem dX7_freeAt_22 : decode cX7_freeAt 22 = .ok (.istore 4, 2) := by decide +kernel
theorem dX7_freeAt_24 : decode cX7_freeAt 24 = .ok (.iload 4, 2) := by decide +kernel
theorem dX7_freeAt_26 : decode cX7_freeAt 26 = .ok (.aload_n 0, 1) := by decide +kernel
theorem dX7_freeAt_27 : decode cX7_freeAt 27 = .ok (.getfield 238, 3) := by decide +kernel
theorem dX7_freeAt_30 : decode cX7_freeAt 30 = .ok (.if_icmp .gt 32, 3) := by decide +kernel
theorem dX7_freeAt_33 : decode cX7_freeAt 33 = .ok (.aload_n 0, 1) := by decide +kernel
theorem dX7_freeAt_34 : decode cX7_freeAt 34 = .ok (.iload_n 1, 1) := by decide +kernel
theorem dX7_freeAt_35 : decode cX7_freeAt 35 = .ok (.iload 4, 2) := by decide +kernel
theorem dX7_freeAt_37 : decode cX7_freeAt 37 = .ok (.invokevirtual 387, 3) := by decide +kernel
theorem dX7_freeAt_40 : decode cX7_freeAt 40 = .ok (.ifCond .ne 6, 3) := by decide +kernel
theorem dX7_freeAt_43 : decode cX7_freeAt 43 = .ok (.goto 13, 3) := by decide +kernel
theorem dX7_freeAt_46 : decode cX7_freeAt 46 = .ok (.iload_n 3, 1) := by decide +kernel
theorem dX7_freeAt_47 : decode cX7_freeAt 47 = .ok (.ifCond .ne 6, 3) := by decide +kernel
theorem dX7_freeAt_50 : decode cX7_freeAt 50 = .ok (.iload 4, 2) := by decide +kernel
theorem dX7_freeAt_52 : decode cX7_freeAt 52 = .ok (.ireturn, 1) := by decide +kernel
theorem dX7_freeAt_53 : decode cX7_freeAt 53 = .ok (.iinc 3 (-1), 3) := by decide +kernel
theorem dX7_freeAt_56 : decode cX7_freeAt 56 = .ok (.iinc 4 1, 3) := by decide +kernel
theorem dX7_freeAt_59 : decode cX7_freeAt 59 = .ok (.goto (-35), 3) := by decide +kernel
theorem dX7_freeAt_62 : decode cX7_freeAt 62 = .ok (.bipush (-2), 2) := by decide +kernel
theorem dX7_freeAt_64 : decode cX7_freeAt 64 = .ok (.ireturn, 1) := by decide +kernel
theorem dX7_noiseAt_0 : decode cX7_noiseAt 0 = .ok (.aload_n 0, 1) := by decide +kernel
theorem dX7_noiseAt_1 : decode cX7_noiseAt 1 = .ok (.getfield 51, 3) := by decide +kernel
theorem dX7_noiseAt_4 : decode cX7_noiseAt 4 = .ok (.iconst 0, 1) := by decide +kernel
theorem dX7_noiseAt_5 : decode cX7_noiseAt 5 = .ok (.iload_n 1, 1) := by decide +kernel
theorem dX7_noiseAt_6 : decode cX7_noiseAt 6 = .ok (.iadd, 1) := by decide +kernel
theorem dX7_noiseAt_7 : decode cX7_noiseAt 7 = .ok (.iaload, 1) := by decide +kernel
theorem dX7_noiseAt_8 : decode cX7_noiseAt 8 = .ok (.istore_n 3, 1) := by decide +kernel
theorem dX7_noiseAt_9 : decode cX7_noiseAt 9 = .ok (.aload_n 0, 1) := by decide +kernel
theorem dX7_noiseAt_10 : decode cX7_noiseAt 10 = .ok (.getfield 51, 3) := by decide +kernel
theorem dX7_noiseAt_13 : decode cX7_noiseAt 13 = .ok (.iconst 0, 1) := by decide +kernel
theorem dX7_noiseAt_14 : decode cX7_noiseAt 14 = .ok (.iload_n 1, 1) := by decide +kernel
theorem dX7_noiseAt_15 : decode cX7_noiseAt 15 = .ok (.iadd, 1) := by decide +kernel
theorem dX7_noiseAt_16 : decode cX7_noiseAt 16 = .ok (.iload_n 2, 1) := by decide +kernel
theorem dX7_noiseAt_17 : decode cX7_noiseAt 17 = .ok (.iastore, 1) := by decide +kernel
theorem dX7_noiseAt_18 : decode cX7_noiseAt 18 = .ok (.aload_n 0, 1) := by decide +kernel
theorem dX7_noiseAt_19 : decode cX7_noiseAt 19 = .ok (.invokevirtual 326, 3) := by decide +kernel
theorem dX7_noiseAt_22 : decode cX7_noiseAt 22 = .ok (.aload_n 0, 1) := by decide +kernel
theorem dX7_noiseAt_23 : decode cX7_noiseAt 23 = .ok (.invokevirtual 381, 3) := by decide +kernel
theorem dX7_noiseAt_26 : decode cX7_noiseAt 26 = .ok (.aload_n 0, 1) := by decide +kernel
theorem dX7_noiseAt_27 : decode cX7_noiseAt 27 = .ok (.invokevirtual 384, 3) := by decide +kernel
theorem dX7_noiseAt_30 : decode cX7_noiseAt 30 = .ok (.iadd, 1) := by decide +kernel
theorem dX7_noiseAt_31 : decode cX7_noiseAt 31 = .ok (.istore 4, 2) := by decide +kernel
theorem dX7_noiseAt_33 : decode cX7_noiseAt 33 = .ok (.aload_n 0, 1) := by decide +kernel
theorem dX7_noiseAt_34 : decode cX7_noiseAt 34 = .ok (.getfield 51, 3) := by decide +kernel
theorem dX7_noiseAt_37 : decode cX7_noiseAt 37 = .ok (.iconst 0, 1) := by decide +kernel
theorem dX7_noiseAt_38 : decode cX7_noiseAt 38 = .ok (.iload_n 1, 1) := by decide +kernel
theorem dX7_noiseAt_39 : decode cX7_noiseAt 39 = .ok (.iadd, 1) := by decide +kernel
theorem dX7_noiseAt_40 : decode cX7_noiseAt 40 = .ok (.iload_n 3, 1) := by decide +kernel
theorem dX7_noiseAt_41 : decode cX7_noiseAt 41 = .ok (.iastore, 1) := by decide +kernel
theorem dX7_noiseAt_42 : decode cX7_noiseAt 42 = .ok (.iload 4, 2) := by decide +kernel
theorem dX7_noiseAt_44 : decode cX7_noiseAt 44 = .ok (.ireturn, 1) := by decide +kernel
theorem dX7_quietest_0 : decode cX7_quietest 0 = .ok (.aload_n 0, 1) := by decide +kernel
theorem dX7_quietest_1 : decode cX7_quietest 1 = .ok (.iconst 0, 1) := by decide +kernel
theorem dX7_quietest_2 : decode cX7_quietest 2 = .ok (.putfield 96, 3) := by decide +kernel
theorem dX7_quietest_5 : decode cX7_quietest 5 = .ok (.aload_n 0, 1) := by decide +kernel
theorem dX7_quietest_6 : decode cX7_quietest 6 = .ok (.iload_n 1, 1) := by decide +kernel
theorem dX7_quietest_7 : decode cX7_quietest 7 = .ok (.invokevirtual 259, 3) := by decide +kernel
theorem dX7_quietest_10 : decode cX7_quietest 10 = .ok (.ifCond .ne 5, 3) := by decide +kernel
theorem dX7_quietest_13 : decode cX7_quietest 13 = .ok (.iconst (-1), 1) := by decide +kernel
theorem dX7_quietest_14 : decode cX7_quietest 14 = .ok (.ireturn, 1) := by decide +kernel
theorem dX7_quietest_15 : decode cX7_quietest 15 = .ok (.bipush (-2), 2) := by decide +kernel
theorem dX7_quietest_17 : decode cX7_quietest 17 = .ok (.istore_n 2, 1) := by decide +kernel
theorem dX7_quietest_18 : decode cX7_quietest 18 = .ok (.iconst 0, 1) := by decide +kernel
theorem dX7_quietest_19 : decode cX7_quietest 19 = .ok (.istore_n 3, 1) := by decide +kernel
theorem dX7_quietest_20 : decode cX7_quietest 20 = .ok (.aload_n 0, 1) := by decide +kernel
theorem dX7_quietest_21 : decode cX7_quietest 21 = .ok (.getfield 29, 3) := by decide +kernel
theorem dX7_quietest_24 : decode cX7_quietest 24 = .ok (.iload_n 1, 1) := by decide +kernel
theorem dX7_quietest_25 : decode cX7_quietest 25 = .ok (.iaload, 1) := by decide +kernel
theorem dX7_quietest_26 : decode cX7_quietest 26 = .ok (.istore 4, 2) := by decide +kernel
theorem dX7_quietest_28 : decode cX7_quietest 28 = .ok (.iload 4, 2) := by decide +kernel
theorem dX7_quietest_30 : decode cX7_quietest 30 = .ok (.aload_n 0, 1) := by decide +kernel
theorem dX7_quietest_31 : decode cX7_quietest 31 = .ok (.getfield 32, 3) := by decide +kernel
theorem dX7_quietest_34 : decode cX7_quietest 34 = .ok (.iload_n 1, 1) := by decide +kernel
theorem dX7_quietest_35 : decode cX7_quietest 35 = .ok (.iaload, 1) := by decide +kernel
theorem dX7_quietest_36 : decode cX7_quietest 36 = .ok (.if_icmp .gt 56, 3) := by decide +kernel
theorem dX7_quietest_39 : decode cX7_quietest 39 = .ok (.aload_n 0, 1) := by decide +kernel
theorem dX7_quietest_40 : decode cX7_quietest 40 = .ok (.getfield 51, 3) := by decide +kernel
theorem dX7_quietest_43 : decode cX7_quietest 43 = .ok (.bipush 12, 2) := by decide +kernel
theorem dX7_quietest_45 : decode cX7_quietest 45 = .ok (.iload 4, 2) := by decide +kernel
theorem dX7_quietest_47 : decode cX7_quietest 47 = .ok (.iadd, 1) := by decide +kernel
theorem dX7_quietest_48 : decode cX7_quietest 48 = .ok (.iaload, 1) := by decide +kernel
theorem dX7_quietest_49 : decode cX7_quietest 49 = .ok (.iconst 1, 1) := by decide +kernel
theorem dX7_quietest_50 : decode cX7_quietest 50 = .ok (.if_icmp .ne 6, 3) := by decide +kernel
theorem dX7_quietest_53 : decode cX7_quietest 53 = .ok (.goto 33, 3) := by decide +kernel
theorem dX7_quietest_56 : decode cX7_quietest 56 = .ok (.aload_n 0, 1) := by decide +kernel
theorem dX7_quietest_57 : decode cX7_quietest 57 = .ok (.iload_n 1, 1) := by decide +kernel
theorem dX7_quietest_58 : decode cX7_quietest 58 = .ok (.iload 4, 2) := by decide +kernel
theorem dX7_quietest_60 : decode cX7_quietest 60 = .ok (.invokevirtual 390, 3) := by decide +kernel
theorem dX7_quietest_63 : decode cX7_quietest 63 = .ok (.istore 5, 2) := by decide +kernel
theorem dX7_quietest_65 : decode cX7_quietest 65 = .ok (.iload_n 2, 1) := by decide +kernel
theorem dX7_quietest_66 : decode cX7_quietest 66 = .ok (.bipush (-2), 2) := by decide +kernel
theorem dX7_quietest_68 : decode cX7_quietest 68 = .ok (.if_icmp .eq 12, 3) := by decide +kernel
theorem dX7_quietest_71 : decode cX7_quietest 71 = .ok (.iload 5, 2) := by decide +kernel
theorem dX7_quietest_73 : decode cX7_quietest 73 = .ok (.iload_n 3, 1) := by decide +kernel
theorem dX7_quietest_74 : decode cX7_quietest 74 = .ok (.if_icmp .lt 6, 3) := by decide +kernel
theorem dX7_quietest_77 : decode cX7_quietest 77 = .ok (.goto 9, 3) := by decide +kernel
theorem dX7_quietest_80 : decode cX7_quietest 80 = .ok (.iload 4, 2) := by decide +kernel
theorem dX7_quietest_82 : decode cX7_quietest 82 = .ok (.istore_n 2, 1) := by decide +kernel
theorem dX7_quietest_83 : decode cX7_quietest 83 = .ok (.iload 5, 2) := by decide +kernel
theorem dX7_quietest_85 : decode cX7_quietest 85 = .ok (.istore_n 3, 1) := by decide +kernel
theorem dX7_quietest_86 : decode cX7_quietest 86 = .ok (.iinc 4 1, 3) := by decide +kernel
theorem dX7_quietest_89 : decode cX7_quietest 89 = .ok (.goto (-61), 3) := by decide +kernel
theorem dX7_quietest_92 : decode cX7_quietest 92 = .ok (.iload_n 2, 1) := by decide +kernel
theorem dX7_quietest_93 : decode cX7_quietest 93 = .ok (.ireturn, 1) := by decide +kernel
theorem dX7_ifTuned_0 : decode cX7_ifTuned 0 = .ok (.aload_n 0, 1) := by decide +kernel
theorem dX7_ifTuned_1 : decode cX7_ifTuned 1 = .ok (.iconst 0, 1) := by decide +kernel
theorem dX7_ifTuned_2 : decode cX7_ifTuned 2 = .ok (.putfield 96, 3) := by decide +kernel
theorem dX7_ifTuned_5 : decode cX7_ifTuned 5 = .ok (.aload_n 0, 1) := by decide +kernel
theorem dX7_ifTuned_6 : decode cX7_ifTuned 6 = .ok (.iload_n 1, 1) := by decide +kernel
theorem dX7_ifTuned_7 : decode cX7_ifTuned 7 = .ok (.invokevirtual 259, 3) := by decide +kernel
theorem dX7_ifTuned_10 : decode cX7_ifTuned 10 = .ok (.ifCond .eq 15, 3) := by decide +kernel
theorem dX7_ifTuned_13 : decode cX7_ifTuned 13 = .ok (.iload_n 2, 1) := by decide +kernel
theorem dX7_ifTuned_14 : decode cX7_ifTuned 14 = .ok (.ifCond .eq 13, 3) := by decide +kernel
theorem dX7_ifTuned_17 : decode cX7_ifTuned 17 = .ok (.aload_n 0, 1) := by decide +kernel
theorem dX7_ifTuned_18 : decode cX7_ifTuned 18 = .ok (.iload_n 2, 1) := by decide +kernel
theorem dX7_ifTuned_19 : decode cX7_ifTuned 19 = .ok (.invokevirtual 262, 3) := by decide +kernel
theorem dX7_ifTuned_22 : decode cX7_ifTuned 22 = .ok (.ifCond .ne 5, 3) := by decide +kernel
theorem dX7_ifTuned_25 : decode cX7_ifTuned 25 = .ok (.iconst (-1), 1) := by decide +kernel
theorem dX7_ifTuned_26 : decode cX7_ifTuned 26 = .ok (.ireturn, 1) := by decide +kernel
theorem dX7_ifTuned_27 : decode cX7_ifTuned 27 = .ok (.aload_n 0, 1) := by decide +kernel
theorem dX7_ifTuned_28 : decode cX7_ifTuned 28 = .ok (.iload_n 1, 1) := by decide +kernel
theorem dX7_ifTuned_29 : decode cX7_ifTuned 29 = .ok (.iload_n 2, 1) := by decide +kernel
theorem dX7_ifTuned_30 : decode cX7_ifTuned 30 = .ok (.invokevirtual 390, 3) := by decide +kernel
theorem dX7_ifTuned_33 : decode cX7_ifTuned 33 = .ok (.ireturn, 1) := by decide +kernel
theorem dX7_madeBy_0 : decode cX7_madeBy 0 = .ok (.iconst 0, 1) := by decide +kernel
theorem dX7_madeBy_1 : decode cX7_madeBy 1 = .ok (.istore_n 2, 1) := by decide +kernel
theorem dX7_madeBy_2 : decode cX7_madeBy 2 = .ok (.iconst 0, 1) := by decide +kernel
theorem dX7_madeBy_3 : decode cX7_madeBy 3 = .ok (.istore_n 3, 1) := by decide +kernel
theorem dX7_madeBy_4 : decode cX7_madeBy 4 = .ok (.iload_n 3, 1) := by decide +kernel
theorem dX7_madeBy_5 : decode cX7_madeBy 5 = .ok (.aload_n 0, 1) := by decide +kernel
theorem dX7_madeBy_6 : decode cX7_madeBy 6 = .ok (.getfield 280, 3) := by decide +kernel
theorem dX7_madeBy_9 : decode cX7_madeBy 9 = .ok (.if_icmp .ge 33, 3) := by decide +kernel
theorem dX7_madeBy_12 : decode cX7_madeBy 12 = .ok (.iload_n 2, 1) := by decide +kernel
theorem dX7_madeBy_13 : decode cX7_madeBy 13 = .ok (.aload_n 0, 1) := by decide +kernel
theorem dX7_madeBy_14 : decode cX7_madeBy 14 = .ok (.iload_n 3, 1) := by decide +kernel
theorem dX7_madeBy_15 : decode cX7_madeBy 15 = .ok (.iload_n 1, 1) := by decide +kernel
theorem dX7_madeBy_16 : decode cX7_madeBy 16 = .ok (.invokevirtual 302, 3) := by decide +kernel
theorem dX7_madeBy_19 : decode cX7_madeBy 19 = .ok (.ifCond .eq 14, 3) := by decide +kernel
theorem dX7_madeBy_22 : decode cX7_madeBy 22 = .ok (.aload_n 0, 1) := by decide +kernel
theorem dX7_madeBy_23 : decode cX7_madeBy 23 = .ok (.iload_n 3, 1) := by decide +kernel
theorem dX7_madeBy_24 : decode cX7_madeBy 24 = .ok (.invokevirtual 308, 3) := by decide +kernel
theorem dX7_madeBy_27 : decode cX7_madeBy 27 = .ok (.invokestatic 311, 3) := by decide +kernel
theorem dX7_madeBy_30 : decode cX7_madeBy 30 = .ok (.goto 4, 3) := by decide +kernel
theorem dX7_madeBy_33 : decode cX7_madeBy 33 = .ok (.iconst 0, 1) := by decide +kernel
theorem dX7_madeBy_34 : decode cX7_madeBy 34 = .ok (.iadd, 1) := by decide +kernel
theorem dX7_madeBy_35 : decode cX7_madeBy 35 = .ok (.istore_n 2, 1) := by decide +kernel
theorem dX7_madeBy_36 : decode cX7_madeBy 36 = .ok (.iinc 3 1, 3) := by decide +kernel
theorem dX7_madeBy_39 : decode cX7_madeBy 39 = .ok (.goto (-35), 3) := by decide +kernel
theorem dX7_madeBy_42 : decode cX7_madeBy 42 = .ok (.iload_n 2, 1) := by decide +kernel
theorem dX7_madeBy_43 : decode cX7_madeBy 43 = .ok (.ireturn, 1) := by decide +kernel
theorem dX7_worstNow_0 : decode cX7_worstNow 0 = .ok (.aload_n 0, 1) := by decide +kernel
theorem dX7_worstNow_1 : decode cX7_worstNow 1 = .ok (.invokevirtual 326, 3) := by decide +kernel
theorem dX7_worstNow_4 : decode cX7_worstNow 4 = .ok (.bipush (-2), 2) := by decide +kernel
theorem dX7_worstNow_6 : decode cX7_worstNow 6 = .ok (.istore_n 1, 1) := by decide +kernel
theorem dX7_worstNow_7 : decode cX7_worstNow 7 = .ok (.iconst 0, 1) := by decide +kernel
theorem dX7_worstNow_8 : decode cX7_worstNow 8 = .ok (.istore_n 2, 1) := by decide +kernel
theorem dX7_worstNow_9 : decode cX7_worstNow 9 = .ok (.iconst 0, 1) := by decide +kernel
theorem dX7_worstNow_10 : decode cX7_worstNow 10 = .ok (.istore_n 3, 1) := by decide +kernel
theorem dX7_worstNow_11 : decode cX7_worstNow 11 = .ok (.iload_n 3, 1) := by decide +kernel
theorem dX7_worstNow_12 : decode cX7_worstNow 12 = .ok (.aload_n 0, 1) := by decide +kernel
theorem dX7_worstNow_13 : decode cX7_worstNow 13 = .ok (.invokevirtual 232, 3) := by decide +kernel
theorem dX7_worstNow_16 : decode cX7_worstNow 16 = .ok (.if_icmp .ge 30, 3) := by decide +kernel
theorem dX7_worstNow_19 : decode cX7_worstNow 19 = .ok (.aload_n 0, 1) := by decide +kernel
theorem dX7_worstNow_20 : decode cX7_worstNow 20 = .ok (.iload_n 3, 1) := by decide +kernel
theorem dX7_worstNow_21 : decode cX7_worstNow 21 = .ok (.invokevirtual 393, 3) := by decide +kernel
theorem dX7_worstNow_24 : decode cX7_worstNow 24 = .ok (.istore 4, 2) := by decide +kernel
theorem dX7_worstNow_26 : decode cX7_worstNow 26 = .ok (.iload 4, 2) := by decide +kernel
theorem dX7_worstNow_28 : decode cX7_worstNow 28 = .ok (.iload_n 2, 1) := by decide +kernel
theorem dX7_worstNow_29 : decode cX7_worstNow 29 = .ok (.if_icmp .gt 6, 3) := by decide +kernel
theorem dX7_worstNow_32 : decode cX7_worstNow 32 = .ok (.goto 8, 3) := by decide +kernel
theorem dX7_worstNow_35 : decode cX7_worstNow 35 = .ok (.iload_n 3, 1) := by decide +kernel
theorem dX7_worstNow_36 : decode cX7_worstNow 36 = .ok (.istore_n 1, 1) := by decide +kernel
theorem dX7_worstNow_37 : decode cX7_worstNow 37 = .ok (.iload 4, 2) := by decide +kernel
theorem dX7_worstNow_39 : decode cX7_worstNow 39 = .ok (.istore_n 2, 1) := by decide +kernel
theorem dX7_worstNow_40 : decode cX7_worstNow 40 = .ok (.iinc 3 1, 3) := by decide +kernel
theorem dX7_worstNow_43 : decode cX7_worstNow 43 = .ok (.goto (-32), 3) := by decide +kernel
theorem dX7_worstNow_46 : decode cX7_worstNow 46 = .ok (.iload_n 1, 1) := by decide +kernel
theorem dX7_worstNow_47 : decode cX7_worstNow 47 = .ok (.ireturn, 1) := by decide +kernel
theorem dX7_worst_0 : decode cX7_worst 0 = .ok (.aload_n 0, 1) := by decide +kernel
theorem dX7_worst_1 : decode cX7_worst 1 = .ok (.iconst 0, 1) := by decide +kernel
theorem dX7_worst_2 : decode cX7_worst 2 = .ok (.putfield 96, 3) := by decide +kernel
theorem dX7_worst_5 : decode cX7_worst 5 = .ok (.aload_n 0, 1) := by decide +kernel
theorem dX7_worst_6 : decode cX7_worst 6 = .ok (.invokevirtual 396, 3) := by decide +kernel
theorem dX7_worst_9 : decode cX7_worst 9 = .ok (.ireturn, 1) := by decide +kernel
theorem dX7_rank_0 : decode cX7_rank 0 = .ok (.aload_n 0, 1) := by decide +kernel
theorem dX7_rank_1 : decode cX7_rank 1 = .ok (.iconst 0, 1) := by decide +kernel
theorem dX7_rank_2 : decode cX7_rank 2 = .ok (.putfield 96, 3) := by decide +kernel
theorem dX7_rank_5 : decode cX7_rank 5 = .ok (.iload_n 1, 1) := by decide +kernel
theorem dX7_rank_6 : decode cX7_rank 6 = .ok (.ifCond .lt 11, 3) := by decide +kernel
theorem dX7_rank_9 : decode cX7_rank 9 = .ok (.iload_n 1, 1) := by decide +kernel
theorem dX7_rank_10 : decode cX7_rank 10 = .ok (.aload_n 0, 1) := by decide +kernel
theorem dX7_rank_11 : decode cX7_rank 11 = .ok (.invokevirtual 232, 3) := by decide +kernel
theorem dX7_rank_14 : decode cX7_rank 14 = .ok (.if_icmp .lt 5, 3) := by decide +kernel
theorem dX7_rank_17 : decode cX7_rank 17 = .ok (.iconst (-1), 1) := by decide +kernel
theorem dX7_rank_18 : decode cX7_rank 18 = .ok (.ireturn, 1) := by decide +kernel
theorem dX7_rank_19 : decode cX7_rank 19 = .ok (.aload_n 0, 1) := by decide +kernel
theorem dX7_rank_20 : decode cX7_rank 20 = .ok (.invokevirtual 326, 3) := by decide +kernel
theorem dX7_rank_23 : decode cX7_rank 23 = .ok (.iconst 0, 1) := by decide +kernel
theorem dX7_rank_24 : decode cX7_rank 24 = .ok (.istore_n 2, 1) := by decide +kernel
theorem dX7_rank_25 : decode cX7_rank 25 = .ok (.iload_n 2, 1) := by decide +kernel
theorem dX7_rank_26 : decode cX7_rank 26 = .ok (.aload_n 0, 1) := by decide +kernel
theorem dX7_rank_27 : decode cX7_rank 27 = .ok (.invokevirtual 232, 3) := by decide +kernel
theorem dX7_rank_30 : decode cX7_rank 30 = .ok (.if_icmp .ge 78, 3) := by decide +kernel
theorem dX7_rank_33 : decode cX7_rank 33 = .ok (.iconst 0, 1) := by decide +kernel
theorem dX7_rank_34 : decode cX7_rank 34 = .ok (.istore_n 3, 1) := by decide +kernel
theorem dX7_rank_35 : decode cX7_rank 35 = .ok (.iconst 0, 1) := by decide +kernel
theorem dX7_rank_36 : decode cX7_rank 36 = .ok (.istore 4, 2) := by decide +kernel
theorem dX7_rank_38 : decode cX7_rank 38 = .ok (.iload 4, 2) := by decide +kernel
theorem dX7_rank_40 : decode cX7_rank 40 = .ok (.aload_n 0, 1) := by decide +kernel
theorem dX7_rank_41 : decode cX7_rank 41 = .ok (.invokevirtual 232, 3) := by decide +kernel
theorem dX7_rank_44 : decode cX7_rank 44 = .ok (.if_icmp .ge 51, 3) := by decide +kernel
theorem dX7_rank_47 : decode cX7_rank 47 = .ok (.iload_n 3, 1) := by decide +kernel
theorem dX7_rank_48 : decode cX7_rank 48 = .ok (.aload_n 0, 1) := by decide +kernel
theorem dX7_rank_49 : decode cX7_rank 49 = .ok (.iload 4, 2) := by decide +kernel
theorem dX7_rank_51 : decode cX7_rank 51 = .ok (.invokevirtual 393, 3) := by decide +kernel
theorem dX7_rank_54 : decode cX7_rank 54 = .ok (.aload_n 0, 1) := by decide +kernel
theorem dX7_rank_55 : decode cX7_rank 55 = .ok (.iload_n 2, 1) := by decide +kernel
theorem dX7_rank_56 : decode cX7_rank 56 = .ok (.invokevirtual 393, 3) := by decide +kernel
theorem dX7_rank_59 : decode cX7_rank 59 = .ok (.if_icmp .gt 23, 3) := by decide +kernel
theorem dX7_rank_62 : decode cX7_rank 62 = .ok (.aload_n 0, 1) := by decide +kernel
theorem dX7_rank_63 : decode cX7_rank 63 = .ok (.iload 4, 2) := by decide +kernel
theorem dX7_rank_65 : decode cX7_rank 65 = .ok (.invokevirtual 393, 3) := by decide +kernel
theorem dX7_rank_68 : decode cX7_rank 68 = .ok (.aload_n 0, 1) := by decide +kernel
theorem dX7_rank_69 : decode cX7_rank 69 = .ok (.iload_n 2, 1) := by decide +kernel
theorem dX7_rank_70 : decode cX7_rank 70 = .ok (.invokevirtual 393, 3) := by decide +kernel
theorem dX7_rank_73 : decode cX7_rank 73 = .ok (.if_icmp .ne 13, 3) := by decide +kernel
theorem dX7_rank_76 : decode cX7_rank 76 = .ok (.iload 4, 2) := by decide +kernel
theorem dX7_rank_78 : decode cX7_rank 78 = .ok (.iload_n 2, 1) := by decide +kernel
theorem dX7_rank_79 : decode cX7_rank 79 = .ok (.if_icmp .ge 7, 3) := by decide +kernel
theorem dX7_rank_82 : decode cX7_rank 82 = .ok (.iconst 1, 1) := by decide +kernel
theorem dX7_rank_83 : decode cX7_rank 83 = .ok (.goto 4, 3) := by decide +kernel
theorem dX7_rank_86 : decode cX7_rank 86 = .ok (.iconst 0, 1) := by decide +kernel
theorem dX7_rank_87 : decode cX7_rank 87 = .ok (.iadd, 1) := by decide +kernel
theorem dX7_rank_88 : decode cX7_rank 88 = .ok (.istore_n 3, 1) := by decide +kernel
theorem dX7_rank_89 : decode cX7_rank 89 = .ok (.iinc 4 1, 3) := by decide +kernel
theorem dX7_rank_92 : decode cX7_rank 92 = .ok (.goto (-54), 3) := by decide +kernel
theorem dX7_rank_95 : decode cX7_rank 95 = .ok (.iload_n 3, 1) := by decide +kernel
theorem dX7_rank_96 : decode cX7_rank 96 = .ok (.iload_n 1, 1) := by decide +kernel
theorem dX7_rank_97 : decode cX7_rank 97 = .ok (.if_icmp .ne 5, 3) := by decide +kernel
theorem dX7_rank_100 : decode cX7_rank 100 = .ok (.iload_n 2, 1) := by decide +kernel
theorem dX7_rank_101 : decode cX7_rank 101 = .ok (.ireturn, 1) := by decide +kernel
theorem dX7_rank_102 : decode cX7_rank 102 = .ok (.iinc 2 1, 3) := by decide +kernel
theorem dX7_rank_105 : decode cX7_rank 105 = .ok (.goto (-80), 3) := by decide +kernel
theorem dX7_rank_108 : decode cX7_rank 108 = .ok (.iconst (-1), 1) := by decide +kernel
theorem dX7_rank_109 : decode cX7_rank 109 = .ok (.ireturn, 1) := by decide +kernel
theorem dX7_bySort_0 : decode cX7_bySort 0 = .ok (.aload_n 0, 1) := by decide +kernel
theorem dX7_bySort_1 : decode cX7_bySort 1 = .ok (.iconst 0, 1) := by decide +kernel
theorem dX7_bySort_2 : decode cX7_bySort 2 = .ok (.putfield 96, 3) := by decide +kernel
theorem dX7_bySort_5 : decode cX7_bySort 5 = .ok (.iload_n 1, 1) := by decide +kernel
theorem dX7_bySort_6 : decode cX7_bySort 6 = .ok (.ifCond .lt 18, 3) := by decide +kernel
theorem dX7_bySort_9 : decode cX7_bySort 9 = .ok (.iload_n 1, 1) := by decide +kernel
theorem dX7_bySort_10 : decode cX7_bySort 10 = .ok (.bipush 6, 2) := by decide +kernel
theorem dX7_bySort_12 : decode cX7_bySort 12 = .ok (.if_icmp .ge 12, 3) := by decide +kernel
theorem dX7_bySort_15 : decode cX7_bySort 15 = .ok (.iload_n 2, 1) := by decide +kernel
theorem dX7_bySort_16 : decode cX7_bySort 16 = .ok (.ifCond .lt 8, 3) := by decide +kernel
theorem dX7_bySort_19 : decode cX7_bySort 19 = .ok (.iload_n 2, 1) := by decide +kernel
theorem dX7_bySort_20 : decode cX7_bySort 20 = .ok (.iconst 2, 1) := by decide +kernel
theorem dX7_bySort_21 : decode cX7_bySort 21 = .ok (.if_icmp .le 5, 3) := by decide +kernel
theorem dX7_bySort_24 : decode cX7_bySort 24 = .ok (.iconst (-1), 1) := by decide +kernel
theorem dX7_bySort_25 : decode cX7_bySort 25 = .ok (.ireturn, 1) := by decide +kernel
theorem dX7_bySort_26 : decode cX7_bySort 26 = .ok (.aload_n 0, 1) := by decide +kernel
theorem dX7_bySort_27 : decode cX7_bySort 27 = .ok (.invokevirtual 326, 3) := by decide +kernel
theorem dX7_bySort_30 : decode cX7_bySort 30 = .ok (.iconst 0, 1) := by decide +kernel
theorem dX7_bySort_31 : decode cX7_bySort 31 = .ok (.istore_n 3, 1) := by decide +kernel
theorem dX7_bySort_32 : decode cX7_bySort 32 = .ok (.iconst 0, 1) := by decide +kernel
theorem dX7_bySort_33 : decode cX7_bySort 33 = .ok (.istore 4, 2) := by decide +kernel
theorem dX7_bySort_35 : decode cX7_bySort 35 = .ok (.iload 4, 2) := by decide +kernel
theorem dX7_bySort_37 : decode cX7_bySort 37 = .ok (.aload_n 0, 1) := by decide +kernel
theorem dX7_bySort_38 : decode cX7_bySort 38 = .ok (.getfield 280, 3) := by decide +kernel
theorem dX7_bySort_41 : decode cX7_bySort 41 = .ok (.if_icmp .ge 66, 3) := by decide +kernel
theorem dX7_bySort_44 : decode cX7_bySort 44 = .ok (.aload_n 0, 1) := by decide +kernel
theorem dX7_bySort_45 : decode cX7_bySort 45 = .ok (.getfield 60, 3) := by decide +kernel
theorem dX7_bySort_48 : decode cX7_bySort 48 = .ok (.iload 4, 2) := by decide +kernel
theorem dX7_bySort_50 : decode cX7_bySort 50 = .ok (.iaload, 1) := by decide +kernel
theorem dX7_bySort_51 : decode cX7_bySort 51 = .ok (.iload_n 1, 1) := by decide +kernel
theorem dX7_bySort_52 : decode cX7_bySort 52 = .ok (.if_icmp .eq 6, 3) := by decide +kernel
theorem dX7_bySort_55 : decode cX7_bySort 55 = .ok (.goto 46, 3) := by decide +kernel
theorem dX7_bySort_58 : decode cX7_bySort 58 = .ok (.iload_n 3, 1) := by decide +kernel
theorem dX7_bySort_59 : decode cX7_bySort 59 = .ok (.iload_n 2, 1) := by decide +kernel
theorem dX7_bySort_60 : decode cX7_bySort 60 = .ok (.ifCond .ne 7, 3) := by decide +kernel
theorem dX7_bySort_63 : decode cX7_bySort 63 = .ok (.iconst 1, 1) := by decide +kernel
theorem dX7_bySort_64 : decode cX7_bySort 64 = .ok (.goto 35, 3) := by decide +kernel
theorem dX7_bySort_67 : decode cX7_bySort 67 = .ok (.iload_n 2, 1) := by decide +kernel
theorem dX7_bySort_68 : decode cX7_bySort 68 = .ok (.iconst 1, 1) := by decide +kernel
theorem dX7_bySort_69 : decode cX7_bySort 69 = .ok (.if_icmp .ne 21, 3) := by decide +kernel
theorem dX7_bySort_72 : decode cX7_bySort 72 = .ok (.aload_n 0, 1) := by decide +kernel
theorem dX7_bySort_73 : decode cX7_bySort 73 = .ok (.getfield 75, 3) := by decide +kernel
theorem dX7_bySort_76 : decode cX7_bySort 76 = .ok (.iload 4, 2) := by decide +kernel
theorem dX7_bySort_78 : decode cX7_bySort 78 = .ok (.iaload, 1) := by decide +kernel
theorem dX7_bySort_79 : decode cX7_bySort 79 = .ok (.ifCond .lt 7, 3) := by decide +kernel
theorem dX7_bySort_82 : decode cX7_bySort 82 = .ok (.iconst 1, 1) := by decide +kernel
theorem dX7_bySort_83 : decode cX7_bySort 83 = .ok (.goto 16, 3) := by decide +kernel
theorem dX7_bySort_86 : decode cX7_bySort 86 = .ok (.iconst 0, 1) := by decide +kernel
theorem dX7_bySort_87 : decode cX7_bySort 87 = .ok (.goto 12, 3) := by decide +kernel
theorem dX7_bySort_90 : decode cX7_bySort 90 = .ok (.aload_n 0, 1) := by decide +kernel
theorem dX7_bySort_91 : decode cX7_bySort 91 = .ok (.iload 4, 2) := by decide +kernel
theorem dX7_bySort_93 : decode cX7_bySort 93 = .ok (.invokevirtual 308, 3) := by decide +kernel
theorem dX7_bySort_96 : decode cX7_bySort 96 = .ok (.invokestatic 311, 3) := by decide +kernel
theorem dX7_bySort_99 : decode cX7_bySort 99 = .ok (.iadd, 1) := by decide +kernel
theorem dX7_bySort_100 : decode cX7_bySort 100 = .ok (.istore_n 3, 1) := by decide +kernel
theorem dX7_bySort_101 : decode cX7_bySort 101 = .ok (.iinc 4 1, 3) := by decide +kernel
theorem dX7_bySort_104 : decode cX7_bySort 104 = .ok (.goto (-69), 3) := by decide +kernel
theorem dX7_bySort_107 : decode cX7_bySort 107 = .ok (.iload_n 3, 1) := by decide +kernel
theorem dX7_bySort_108 : decode cX7_bySort 108 = .ok (.ireturn, 1) := by decide +kernel
theorem dX7_loudest_0 : decode cX7_loudest 0 = .ok (.aload_n 0, 1) := by decide +kernel
theorem dX7_loudest_1 : decode cX7_loudest 1 = .ok (.iconst 0, 1) := by decide +kernel
theorem dX7_loudest_2 : decode cX7_loudest 2 = .ok (.putfield 96, 3) := by decide +kernel
theorem dX7_loudest_5 : decode cX7_loudest 5 = .ok (.aload_n 0, 1) := by decide +kernel
theorem dX7_loudest_6 : decode cX7_loudest 6 = .ok (.invokevirtual 326, 3) := by decide +kernel
theorem dX7_loudest_9 : decode cX7_loudest 9 = .ok (.bipush (-2), 2) := by decide +kernel
theorem dX7_loudest_11 : decode cX7_loudest 11 = .ok (.istore_n 1, 1) := by decide +kernel
theorem dX7_loudest_12 : decode cX7_loudest 12 = .ok (.iconst 0, 1) := by decide +kernel
theorem dX7_loudest_13 : decode cX7_loudest 13 = .ok (.istore_n 2, 1) := by decide +kernel
theorem dX7_loudest_14 : decode cX7_loudest 14 = .ok (.iload_n 2, 1) := by decide +kernel
theorem dX7_loudest_15 : decode cX7_loudest 15 = .ok (.aload_n 0, 1) := by decide +kernel
theorem dX7_loudest_16 : decode cX7_loudest 16 = .ok (.getfield 280, 3) := by decide +kernel
theorem dX7_loudest_19 : decode cX7_loudest 19 = .ok (.if_icmp .ge 40, 3) := by decide +kernel
theorem dX7_loudest_22 : decode cX7_loudest 22 = .ok (.aload_n 0, 1) := by decide +kernel
theorem dX7_loudest_23 : decode cX7_loudest 23 = .ok (.iload_n 2, 1) := by decide +kernel
theorem dX7_loudest_24 : decode cX7_loudest 24 = .ok (.invokevirtual 308, 3) := by decide +kernel
theorem dX7_loudest_27 : decode cX7_loudest 27 = .ok (.ifCond .eq 26, 3) := by decide +kernel
theorem dX7_loudest_30 : decode cX7_loudest 30 = .ok (.iload_n 1, 1) := by decide +kernel
theorem dX7_loudest_31 : decode cX7_loudest 31 = .ok (.bipush (-2), 2) := by decide +kernel
theorem dX7_loudest_33 : decode cX7_loudest 33 = .ok (.if_icmp .eq 18, 3) := by decide +kernel
theorem dX7_loudest_36 : decode cX7_loudest 36 = .ok (.aload_n 0, 1) := by decide +kernel
theorem dX7_loudest_37 : decode cX7_loudest 37 = .ok (.getfield 75, 3) := by decide +kernel
theorem dX7_loudest_40 : decode cX7_loudest 40 = .ok (.iload_n 2, 1) := by decide +kernel
theorem dX7_loudest_41 : decode cX7_loudest 41 = .ok (.iaload, 1) := by decide +kernel
theorem dX7_loudest_42 : decode cX7_loudest 42 = .ok (.aload_n 0, 1) := by decide +kernel
theorem dX7_loudest_43 : decode cX7_loudest 43 = .ok (.getfield 75, 3) := by decide +kernel
theorem dX7_loudest_46 : decode cX7_loudest 46 = .ok (.iload_n 1, 1) := by decide +kernel
theorem dX7_loudest_47 : decode cX7_loudest 47 = .ok (.iaload, 1) := by decide +kernel
theorem dX7_loudest_48 : decode cX7_loudest 48 = .ok (.if_icmp .le 5, 3) := by decide +kernel
theorem dX7_loudest_51 : decode cX7_loudest 51 = .ok (.iload_n 2, 1) := by decide +kernel
theorem dX7_loudest_52 : decode cX7_loudest 52 = .ok (.istore_n 1, 1) := by decide +kernel
theorem dX7_loudest_53 : decode cX7_loudest 53 = .ok (.iinc 2 1, 3) := by decide +kernel
theorem dX7_loudest_56 : decode cX7_loudest 56 = .ok (.goto (-42), 3) := by decide +kernel
theorem dX7_loudest_59 : decode cX7_loudest 59 = .ok (.iload_n 1, 1) := by decide +kernel
theorem dX7_loudest_60 : decode cX7_loudest 60 = .ok (.ireturn, 1) := by decide +kernel
theorem dX7_turnsDown_0 : decode cX7_turnsDown 0 = .ok (.aload_n 0, 1) := by decide +kernel
theorem dX7_turnsDown_1 : decode cX7_turnsDown 1 = .ok (.invokevirtual 348, 3) := by decide +kernel
theorem dX7_turnsDown_4 : decode cX7_turnsDown 4 = .ok (.iconst 0, 1) := by decide +kernel
theorem dX7_turnsDown_5 : decode cX7_turnsDown 5 = .ok (.istore_n 1, 1) := by decide +kernel
theorem dX7_turnsDown_6 : decode cX7_turnsDown 6 = .ok (.aload_n 0, 1) := by decide +kernel
theorem dX7_turnsDown_7 : decode cX7_turnsDown 7 = .ok (.invokevirtual 396, 3) := by decide +kernel
theorem dX7_turnsDown_10 : decode cX7_turnsDown 10 = .ok (.istore_n 2, 1) := by decide +kernel
theorem dX7_turnsDown_11 : decode cX7_turnsDown 11 = .ok (.iload_n 2, 1) := by decide +kernel
theorem dX7_turnsDown_12 : decode cX7_turnsDown 12 = .ok (.bipush (-2), 2) := by decide +kernel
theorem dX7_turnsDown_14 : decode cX7_turnsDown 14 = .ok (.if_icmp .eq 39, 3) := by decide +kernel
theorem dX7_turnsDown_17 : decode cX7_turnsDown 17 = .ok (.aload_n 0, 1) := by decide +kernel
theorem dX7_turnsDown_18 : decode cX7_turnsDown 18 = .ok (.getfield 51, 3) := by decide +kernel
theorem dX7_turnsDown_21 : decode cX7_turnsDown 21 = .ok (.bipush 6, 2) := by decide +kernel
theorem dX7_turnsDown_23 : decode cX7_turnsDown 23 = .ok (.iload_n 2, 1) := by decide +kernel
theorem dX7_turnsDown_24 : decode cX7_turnsDown 24 = .ok (.iadd, 1) := by decide +kernel
theorem dX7_turnsDown_25 : decode cX7_turnsDown 25 = .ok (.iaload, 1) := by decide +kernel
theorem dX7_turnsDown_26 : decode cX7_turnsDown 26 = .ok (.ifCond .le 27, 3) := by decide +kernel
theorem dX7_turnsDown_29 : decode cX7_turnsDown 29 = .ok (.aload_n 0, 1) := by decide +kernel
theorem dX7_turnsDown_30 : decode cX7_turnsDown 30 = .ok (.getfield 51, 3) := by decide +kernel
theorem dX7_turnsDown_33 : decode cX7_turnsDown 33 = .ok (.bipush 6, 2) := by decide +kernel
theorem dX7_turnsDown_35 : decode cX7_turnsDown 35 = .ok (.iload_n 2, 1) := by decide +kernel
theorem dX7_turnsDown_36 : decode cX7_turnsDown 36 = .ok (.iadd, 1) := by decide +kernel
theorem dX7_turnsDown_37 : decode cX7_turnsDown 37 = .ok (.dup2, 1) := by decide +kernel
theorem dX7_turnsDown_38 : decode cX7_turnsDown 38 = .ok (.iaload, 1) := by decide +kernel
theorem dX7_turnsDown_39 : decode cX7_turnsDown 39 = .ok (.iconst 1, 1) := by decide +kernel
theorem dX7_turnsDown_40 : decode cX7_turnsDown 40 = .ok (.isub, 1) := by decide +kernel
theorem dX7_turnsDown_41 : decode cX7_turnsDown 41 = .ok (.iastore, 1) := by decide +kernel
theorem dX7_turnsDown_42 : decode cX7_turnsDown 42 = .ok (.iinc 1 1, 3) := by decide +kernel
theorem dX7_turnsDown_45 : decode cX7_turnsDown 45 = .ok (.aload_n 0, 1) := by decide +kernel
theorem dX7_turnsDown_46 : decode cX7_turnsDown 46 = .ok (.invokevirtual 396, 3) := by decide +kernel
theorem dX7_turnsDown_49 : decode cX7_turnsDown 49 = .ok (.istore_n 2, 1) := by decide +kernel
theorem dX7_turnsDown_50 : decode cX7_turnsDown 50 = .ok (.goto (-39), 3) := by decide +kernel
theorem dX7_turnsDown_53 : decode cX7_turnsDown 53 = .ok (.iload_n 1, 1) := by decide +kernel
theorem dX7_turnsDown_54 : decode cX7_turnsDown 54 = .ok (.ireturn, 1) := by decide +kernel
theorem dX7_turned_0 : decode cX7_turned 0 = .ok (.aload_n 0, 1) := by decide +kernel
theorem dX7_turned_1 : decode cX7_turned 1 = .ok (.iconst 0, 1) := by decide +kernel
theorem dX7_turned_2 : decode cX7_turned 2 = .ok (.putfield 96, 3) := by decide +kernel
theorem dX7_turned_5 : decode cX7_turned 5 = .ok (.iload_n 1, 1) := by decide +kernel
theorem dX7_turned_6 : decode cX7_turned 6 = .ok (.iconst (-1), 1) := by decide +kernel
theorem dX7_turned_7 : decode cX7_turned 7 = .ok (.if_icmp .eq 14, 3) := by decide +kernel
theorem dX7_turned_10 : decode cX7_turned 10 = .ok (.aload_n 0, 1) := by decide +kernel
theorem dX7_turned_11 : decode cX7_turned 11 = .ok (.iload_n 1, 1) := by decide +kernel
theorem dX7_turned_12 : decode cX7_turned 12 = .ok (.invokevirtual 259, 3) := by decide +kernel
theorem dX7_turned_15 : decode cX7_turned 15 = .ok (.ifCond .ne 6, 3) := by decide +kernel
theorem dX7_turned_18 : decode cX7_turned 18 = .ok (.bipush (-2), 2) := by decide +kernel
theorem dX7_turned_20 : decode cX7_turned 20 = .ok (.ireturn, 1) := by decide +kernel
theorem dX7_turned_21 : decode cX7_turned 21 = .ok (.aload_n 0, 1) := by decide +kernel
theorem dX7_turned_22 : decode cX7_turned 22 = .ok (.invokevirtual 399, 3) := by decide +kernel
theorem dX7_turned_25 : decode cX7_turned 25 = .ok (.istore_n 2, 1) := by decide +kernel
theorem dX7_turned_26 : decode cX7_turned 26 = .ok (.iload_n 1, 1) := by decide +kernel
theorem dX7_turned_27 : decode cX7_turned 27 = .ok (.iconst (-1), 1) := by decide +kernel
theorem dX7_turned_28 : decode cX7_turned 28 = .ok (.if_icmp .ne 7, 3) := by decide +kernel
theorem dX7_turned_31 : decode cX7_turned 31 = .ok (.iload_n 2, 1) := by decide +kernel
theorem dX7_turned_32 : decode cX7_turned 32 = .ok (.goto 12, 3) := by decide +kernel
theorem dX7_turned_35 : decode cX7_turned 35 = .ok (.aload_n 0, 1) := by decide +kernel
theorem dX7_turned_36 : decode cX7_turned 36 = .ok (.getfield 51, 3) := by decide +kernel
theorem dX7_turned_39 : decode cX7_turned 39 = .ok (.bipush 6, 2) := by decide +kernel
theorem dX7_turned_41 : decode cX7_turned 41 = .ok (.iload_n 1, 1) := by decide +kernel
theorem dX7_turned_42 : decode cX7_turned 42 = .ok (.iadd, 1) := by decide +kernel
theorem dX7_turned_43 : decode cX7_turned 43 = .ok (.iaload, 1) := by decide +kernel
theorem dX7_turned_44 : decode cX7_turned 44 = .ok (.istore_n 3, 1) := by decide +kernel
theorem dX7_turned_45 : decode cX7_turned 45 = .ok (.aload_n 0, 1) := by decide +kernel
theorem dX7_turned_46 : decode cX7_turned 46 = .ok (.invokevirtual 357, 3) := by decide +kernel
theorem dX7_turned_49 : decode cX7_turned 49 = .ok (.iload_n 3, 1) := by decide +kernel
theorem dX7_turned_50 : decode cX7_turned 50 = .ok (.ireturn, 1) := by decide +kernel
theorem dX7_left_0 : decode cX7_left 0 = .ok (.aload_n 0, 1) := by decide +kernel
theorem dX7_left_1 : decode cX7_left 1 = .ok (.iconst 0, 1) := by decide +kernel
theorem dX7_left_2 : decode cX7_left 2 = .ok (.putfield 96, 3) := by decide +kernel
theorem dX7_left_5 : decode cX7_left 5 = .ok (.aload_n 0, 1) := by decide +kernel
theorem dX7_left_6 : decode cX7_left 6 = .ok (.invokevirtual 399, 3) := by decide +kernel
theorem dX7_left_9 : decode cX7_left 9 = .ok (.pop, 1) := by decide +kernel
theorem dX7_left_10 : decode cX7_left 10 = .ok (.aload_n 0, 1) := by decide +kernel
theorem dX7_left_11 : decode cX7_left 11 = .ok (.invokevirtual 326, 3) := by decide +kernel
theorem dX7_left_14 : decode cX7_left 14 = .ok (.aload_n 0, 1) := by decide +kernel
theorem dX7_left_15 : decode cX7_left 15 = .ok (.invokevirtual 381, 3) := by decide +kernel
theorem dX7_left_18 : decode cX7_left 18 = .ok (.istore_n 1, 1) := by decide +kernel
theorem dX7_left_19 : decode cX7_left 19 = .ok (.aload_n 0, 1) := by decide +kernel
theorem dX7_left_20 : decode cX7_left 20 = .ok (.invokevirtual 357, 3) := by decide +kernel
theorem dX7_left_23 : decode cX7_left 23 = .ok (.iload_n 1, 1) := by decide +kernel
theorem dX7_left_24 : decode cX7_left 24 = .ok (.ireturn, 1) := by decide +kernel
theorem dX7_exchanges_0 : decode cX7_exchanges 0 = .ok (.aload_n 0, 1) := by decide +kernel
theorem dX7_exchanges_1 : decode cX7_exchanges 1 = .ok (.getfield 51, 3) := by decide +kernel
theorem dX7_exchanges_4 : decode cX7_exchanges 4 = .ok (.iconst 0, 1) := by decide +kernel
theorem dX7_exchanges_5 : decode cX7_exchanges 5 = .ok (.iload_n 1, 1) := by decide +kernel
theorem dX7_exchanges_6 : decode cX7_exchanges 6 = .ok (.iadd, 1) := by decide +kernel
theorem dX7_exchanges_7 : decode cX7_exchanges 7 = .ok (.iaload, 1) := by decide +kernel
theorem dX7_exchanges_8 : decode cX7_exchanges 8 = .ok (.istore_n 3, 1) := by decide +kernel
theorem dX7_exchanges_9 : decode cX7_exchanges 9 = .ok (.aload_n 0, 1) := by decide +kernel
theorem dX7_exchanges_10 : decode cX7_exchanges 10 = .ok (.getfield 51, 3) := by decide +kernel
theorem dX7_exchanges_13 : decode cX7_exchanges 13 = .ok (.iconst 0, 1) := by decide +kernel
theorem dX7_exchanges_14 : decode cX7_exchanges 14 = .ok (.iload_n 1, 1) := by decide +kernel
theorem dX7_exchanges_15 : decode cX7_exchanges 15 = .ok (.iadd, 1) := by decide +kernel
theorem dX7_exchanges_16 : decode cX7_exchanges 16 = .ok (.aload_n 0, 1) := by decide +kernel
theorem dX7_exchanges_17 : decode cX7_exchanges 17 = .ok (.getfield 51, 3) := by decide +kernel
theorem dX7_exchanges_20 : decode cX7_exchanges 20 = .ok (.iconst 0, 1) := by decide +kernel
theorem dX7_exchanges_21 : decode cX7_exchanges 21 = .ok (.iload_n 2, 1) := by decide +kernel
theorem dX7_exchanges_22 : decode cX7_exchanges 22 = .ok (.iadd, 1) := by decide +kernel
theorem dX7_exchanges_23 : decode cX7_exchanges 23 = .ok (.iaload, 1) := by decide +kernel
theorem dX7_exchanges_24 : decode cX7_exchanges 24 = .ok (.iastore, 1) := by decide +kernel
theorem dX7_exchanges_25 : decode cX7_exchanges 25 = .ok (.aload_n 0, 1) := by decide +kernel
theorem dX7_exchanges_26 : decode cX7_exchanges 26 = .ok (.getfield 51, 3) := by decide +kernel
theorem dX7_exchanges_29 : decode cX7_exchanges 29 = .ok (.iconst 0, 1) := by decide +kernel
theorem dX7_exchanges_30 : decode cX7_exchanges 30 = .ok (.iload_n 2, 1) := by decide +kernel
theorem dX7_exchanges_31 : decode cX7_exchanges 31 = .ok (.iadd, 1) := by decide +kernel
theorem dX7_exchanges_32 : decode cX7_exchanges 32 = .ok (.iload_n 3, 1) := by decide +kernel
theorem dX7_exchanges_33 : decode cX7_exchanges 33 = .ok (.iastore, 1) := by decide +kernel
theorem dX7_exchanges_34 : decode cX7_exchanges 34 = .ok (.return_, 1) := by decide +kernel
theorem dX7_bestSwap_0 : decode cX7_bestSwap 0 = .ok (.aload_n 0, 1) := by decide +kernel
theorem dX7_bestSwap_1 : decode cX7_bestSwap 1 = .ok (.iconst 0, 1) := by decide +kernel
theorem dX7_bestSwap_2 : decode cX7_bestSwap 2 = .ok (.putfield 96, 3) := by decide +kernel
theorem dX7_bestSwap_5 : decode cX7_bestSwap 5 = .ok (.aload_n 0, 1) := by decide +kernel
theorem dX7_bestSwap_6 : decode cX7_bestSwap 6 = .ok (.invokevirtual 326, 3) := by decide +kernel
theorem dX7_bestSwap_9 : decode cX7_bestSwap 9 = .ok (.aload_n 0, 1) := by decide +kernel
theorem dX7_bestSwap_10 : decode cX7_bestSwap 10 = .ok (.invokevirtual 381, 3) := by decide +kernel
theorem dX7_bestSwap_13 : decode cX7_bestSwap 13 = .ok (.aload_n 0, 1) := by decide +kernel
theorem dX7_bestSwap_14 : decode cX7_bestSwap 14 = .ok (.invokevirtual 384, 3) := by decide +kernel
theorem dX7_bestSwap_17 : decode cX7_bestSwap 17 = .ok (.iadd, 1) := by decide +kernel
theorem dX7_bestSwap_18 : decode cX7_bestSwap 18 = .ok (.istore_n 1, 1) := by decide +kernel
theorem dX7_bestSwap_19 : decode cX7_bestSwap 19 = .ok (.bipush (-2), 2) := by decide +kernel
theorem dX7_bestSwap_21 : decode cX7_bestSwap 21 = .ok (.istore_n 2, 1) := by decide +kernel
theorem dX7_bestSwap_22 : decode cX7_bestSwap 22 = .ok (.iconst 0, 1) := by decide +kernel
theorem dX7_bestSwap_23 : decode cX7_bestSwap 23 = .ok (.istore_n 3, 1) := by decide +kernel
theorem dX7_bestSwap_24 : decode cX7_bestSwap 24 = .ok (.iload_n 3, 1) := by decide +kernel
theorem dX7_bestSwap_25 : decode cX7_bestSwap 25 = .ok (.aload_n 0, 1) := by decide +kernel
theorem dX7_bestSwap_26 : decode cX7_bestSwap 26 = .ok (.invokevirtual 232, 3) := by decide +kernel
theorem dX7_bestSwap_29 : decode cX7_bestSwap 29 = .ok (.if_icmp .ge 104, 3) := by decide +kernel
theorem dX7_bestSwap_32 : decode cX7_bestSwap 32 = .ok (.iload_n 3, 1) := by decide +kernel
theorem dX7_bestSwap_33 : decode cX7_bestSwap 33 = .ok (.iconst 1, 1) := by decide +kernel
theorem dX7_bestSwap_34 : decode cX7_bestSwap 34 = .ok (.iadd, 1) := by decide +kernel
theorem dX7_bestSwap_35 : decode cX7_bestSwap 35 = .ok (.istore 4, 2) := by decide +kernel
theorem dX7_bestSwap_37 : decode cX7_bestSwap 37 = .ok (.iload 4, 2) := by decide +kernel
theorem dX7_bestSwap_39 : decode cX7_bestSwap 39 = .ok (.aload_n 0, 1) := by decide +kernel
theorem dX7_bestSwap_40 : decode cX7_bestSwap 40 = .ok (.invokevirtual 232, 3) := by decide +kernel
theorem dX7_bestSwap_43 : decode cX7_bestSwap 43 = .ok (.if_icmp .ge 84, 3) := by decide +kernel
theorem dX7_bestSwap_46 : decode cX7_bestSwap 46 = .ok (.aload_n 0, 1) := by decide +kernel
theorem dX7_bestSwap_47 : decode cX7_bestSwap 47 = .ok (.getfield 51, 3) := by decide +kernel
theorem dX7_bestSwap_50 : decode cX7_bestSwap 50 = .ok (.iconst 0, 1) := by decide +kernel
theorem dX7_bestSwap_51 : decode cX7_bestSwap 51 = .ok (.iload_n 3, 1) := by decide +kernel
theorem dX7_bestSwap_52 : decode cX7_bestSwap 52 = .ok (.iadd, 1) := by decide +kernel
theorem dX7_bestSwap_53 : decode cX7_bestSwap 53 = .ok (.iaload, 1) := by decide +kernel
theorem dX7_bestSwap_54 : decode cX7_bestSwap 54 = .ok (.ifCond .eq 67, 3) := by decide +kernel
theorem dX7_bestSwap_57 : decode cX7_bestSwap 57 = .ok (.aload_n 0, 1) := by decide +kernel
theorem dX7_bestSwap_58 : decode cX7_bestSwap 58 = .ok (.getfield 51, 3) := by decide +kernel
theorem dX7_bestSwap_61 : decode cX7_bestSwap 61 = .ok (.iconst 0, 1) := by decide +kernel
theorem dX7_bestSwap_62 : decode cX7_bestSwap 62 = .ok (.iload 4, 2) := by decide +kernel
theorem dX7_bestSwap_64 : decode cX7_bestSwap 64 = .ok (.iadd, 1) := by decide +kernel
theorem dX7_bestSwap_65 : decode cX7_bestSwap 65 = .ok (.iaload, 1) := by decide +kernel
theorem dX7_bestSwap_66 : decode cX7_bestSwap 66 = .ok (.ifCond .ne 6, 3) := by decide +kernel
theorem dX7_bestSwap_69 : decode cX7_bestSwap 69 = .ok (.goto 52, 3) := by decide +kernel
theorem dX7_bestSwap_72 : decode cX7_bestSwap 72 = .ok (.aload_n 0, 1) := by decide +kernel
theorem dX7_bestSwap_73 : decode cX7_bestSwap 73 = .ok (.iload_n 3, 1) := by decide +kernel
theorem dX7_bestSwap_74 : decode cX7_bestSwap 74 = .ok (.iload 4, 2) := by decide +kernel
theorem dX7_bestSwap_76 : decode cX7_bestSwap 76 = .ok (.invokevirtual 402, 3) := by decide +kernel
theorem dX7_bestSwap_79 : decode cX7_bestSwap 79 = .ok (.aload_n 0, 1) := by decide +kernel
theorem dX7_bestSwap_80 : decode cX7_bestSwap 80 = .ok (.invokevirtual 326, 3) := by decide +kernel
theorem dX7_bestSwap_83 : decode cX7_bestSwap 83 = .ok (.aload_n 0, 1) := by decide +kernel
theorem dX7_bestSwap_84 : decode cX7_bestSwap 84 = .ok (.invokevirtual 381, 3) := by decide +kernel
theorem dX7_bestSwap_87 : decode cX7_bestSwap 87 = .ok (.aload_n 0, 1) := by decide +kernel
theorem dX7_bestSwap_88 : decode cX7_bestSwap 88 = .ok (.invokevirtual 384, 3) := by decide +kernel
theorem dX7_bestSwap_91 : decode cX7_bestSwap 91 = .ok (.iadd, 1) := by decide +kernel
theorem dX7_bestSwap_92 : decode cX7_bestSwap 92 = .ok (.istore 5, 2) := by decide +kernel
theorem dX7_bestSwap_94 : decode cX7_bestSwap 94 = .ok (.aload_n 0, 1) := by decide +kernel
theorem dX7_bestSwap_95 : decode cX7_bestSwap 95 = .ok (.iload_n 3, 1) := by decide +kernel
theorem dX7_bestSwap_96 : decode cX7_bestSwap 96 = .ok (.iload 4, 2) := by decide +kernel
theorem dX7_bestSwap_98 : decode cX7_bestSwap 98 = .ok (.invokevirtual 402, 3) := by decide +kernel
theorem dX7_bestSwap_101 : decode cX7_bestSwap 101 = .ok (.iload 5, 2) := by decide +kernel
theorem dX7_bestSwap_103 : decode cX7_bestSwap 103 = .ok (.iload_n 1, 1) := by decide +kernel
theorem dX7_bestSwap_104 : decode cX7_bestSwap 104 = .ok (.if_icmp .lt 6, 3) := by decide +kernel
theorem dX7_bestSwap_107 : decode cX7_bestSwap 107 = .ok (.goto 14, 3) := by decide +kernel
theorem dX7_bestSwap_110 : decode cX7_bestSwap 110 = .ok (.bipush 6, 2) := by decide +kernel
theorem dX7_bestSwap_112 : decode cX7_bestSwap 112 = .ok (.iload_n 3, 1) := by decide +kernel
theorem dX7_bestSwap_113 : decode cX7_bestSwap 113 = .ok (.imul, 1) := by decide +kernel
theorem dX7_bestSwap_114 : decode cX7_bestSwap 114 = .ok (.iload 4, 2) := by decide +kernel
theorem dX7_bestSwap_116 : decode cX7_bestSwap 116 = .ok (.iadd, 1) := by decide +kernel
theorem dX7_bestSwap_117 : decode cX7_bestSwap 117 = .ok (.istore_n 2, 1) := by decide +kernel
theorem dX7_bestSwap_118 : decode cX7_bestSwap 118 = .ok (.iload 5, 2) := by decide +kernel
theorem dX7_bestSwap_120 : decode cX7_bestSwap 120 = .ok (.istore_n 1, 1) := by decide +kernel
theorem dX7_bestSwap_121 : decode cX7_bestSwap 121 = .ok (.iinc 4 1, 3) := by decide +kernel
theorem dX7_bestSwap_124 : decode cX7_bestSwap 124 = .ok (.goto (-87), 3) := by decide +kernel
theorem dX7_bestSwap_127 : decode cX7_bestSwap 127 = .ok (.iinc 3 1, 3) := by decide +kernel
theorem dX7_bestSwap_130 : decode cX7_bestSwap 130 = .ok (.goto (-106), 3) := by decide +kernel
theorem dX7_bestSwap_133 : decode cX7_bestSwap 133 = .ok (.iload_n 2, 1) := by decide +kernel
theorem dX7_bestSwap_134 : decode cX7_bestSwap 134 = .ok (.ireturn, 1) := by decide +kernel
theorem dX7_when_0 : decode cX7_when 0 = .ok (.aload_n 0, 1) := by decide +kernel
theorem dX7_when_1 : decode cX7_when 1 = .ok (.iconst 0, 1) := by decide +kernel
theorem dX7_when_2 : decode cX7_when 2 = .ok (.putfield 96, 3) := by decide +kernel
theorem dX7_when_5 : decode cX7_when 5 = .ok (.aload_n 0, 1) := by decide +kernel
theorem dX7_when_6 : decode cX7_when 6 = .ok (.iload_n 1, 1) := by decide +kernel
theorem dX7_when_7 : decode cX7_when 7 = .ok (.invokevirtual 259, 3) := by decide +kernel
theorem dX7_when_10 : decode cX7_when 10 = .ok (.ifCond .ne 5, 3) := by decide +kernel
theorem dX7_when_13 : decode cX7_when 13 = .ok (.iconst (-1), 1) := by decide +kernel
theorem dX7_when_14 : decode cX7_when 14 = .ok (.ireturn, 1) := by decide +kernel
theorem dX7_when_15 : decode cX7_when 15 = .ok (.aload_n 0, 1) := by decide +kernel
theorem dX7_when_16 : decode cX7_when 16 = .ok (.invokevirtual 326, 3) := by decide +kernel
theorem dX7_when_19 : decode cX7_when 19 = .ok (.iconst 0, 1) := by decide +kernel
theorem dX7_when_20 : decode cX7_when 20 = .ok (.istore_n 2, 1) := by decide +kernel
theorem dX7_when_21 : decode cX7_when 21 = .ok (.iconst 0, 1) := by decide +kernel
theorem dX7_when_22 : decode cX7_when 22 = .ok (.istore_n 3, 1) := by decide +kernel
theorem dX7_when_23 : decode cX7_when 23 = .ok (.iload_n 3, 1) := by decide +kernel
theorem dX7_when_24 : decode cX7_when 24 = .ok (.aload_n 0, 1) := by decide +kernel
theorem dX7_when_25 : decode cX7_when 25 = .ok (.getfield 280, 3) := by decide +kernel
theorem dX7_when_28 : decode cX7_when 28 = .ok (.if_icmp .ge 37, 3) := by decide +kernel
theorem dX7_when_31 : decode cX7_when 31 = .ok (.aload_n 0, 1) := by decide +kernel
theorem dX7_when_32 : decode cX7_when 32 = .ok (.iload_n 3, 1) := by decide +kernel
theorem dX7_when_33 : decode cX7_when 33 = .ok (.iload_n 1, 1) := by decide +kernel
theorem dX7_when_34 : decode cX7_when 34 = .ok (.invokevirtual 305, 3) := by decide +kernel
theorem dX7_when_37 : decode cX7_when 37 = .ok (.ifCond .eq 22, 3) := by decide +kernel
theorem dX7_when_40 : decode cX7_when 40 = .ok (.iload_n 2, 1) := by decide +kernel
theorem dX7_when_41 : decode cX7_when 41 = .ok (.aload_n 0, 1) := by decide +kernel
theorem dX7_when_42 : decode cX7_when 42 = .ok (.getfield 78, 3) := by decide +kernel
theorem dX7_when_45 : decode cX7_when 45 = .ok (.iload_n 3, 1) := by decide +kernel
theorem dX7_when_46 : decode cX7_when 46 = .ok (.iaload, 1) := by decide +kernel
theorem dX7_when_47 : decode cX7_when 47 = .ok (.aload_n 0, 1) := by decide +kernel
theorem dX7_when_48 : decode cX7_when 48 = .ok (.getfield 51, 3) := by decide +kernel
theorem dX7_when_51 : decode cX7_when 51 = .ok (.bipush 73, 2) := by decide +kernel
theorem dX7_when_53 : decode cX7_when 53 = .ok (.iload_n 1, 1) := by decide +kernel
theorem dX7_when_54 : decode cX7_when 54 = .ok (.iadd, 1) := by decide +kernel
theorem dX7_when_55 : decode cX7_when 55 = .ok (.iaload, 1) := by decide +kernel
theorem dX7_when_56 : decode cX7_when 56 = .ok (.iand, 1) := by decide +kernel
theorem dX7_when_57 : decode cX7_when 57 = .ok (.ior, 1) := by decide +kernel
theorem dX7_when_58 : decode cX7_when 58 = .ok (.istore_n 2, 1) := by decide +kernel
theorem dX7_when_59 : decode cX7_when 59 = .ok (.iinc 3 1, 3) := by decide +kernel
theorem dX7_when_62 : decode cX7_when 62 = .ok (.goto (-39), 3) := by decide +kernel
theorem dX7_when_65 : decode cX7_when 65 = .ok (.iload_n 2, 1) := by decide +kernel
theorem dX7_when_66 : decode cX7_when 66 = .ok (.ireturn, 1) := by decide +kernel
theorem dX7_linked_0 : decode cX7_linked 0 = .ok (.aload_n 0, 1) := by decide +kernel
theorem dX7_linked_1 : decode cX7_linked 1 = .ok (.iconst 0, 1) := by decide +kernel
theorem dX7_linked_2 : decode cX7_linked 2 = .ok (.putfield 96, 3) := by decide +kernel
theorem dX7_linked_5 : decode cX7_linked 5 = .ok (.iload_n 1, 1) := by decide +kernel
theorem dX7_linked_6 : decode cX7_linked 6 = .ok (.ifCond .lt 22, 3) := by decide +kernel
theorem dX7_linked_9 : decode cX7_linked 9 = .ok (.iload_n 1, 1) := by decide +kernel
theorem dX7_linked_10 : decode cX7_linked 10 = .ok (.iconst 3, 1) := by decide +kernel
theorem dX7_linked_11 : decode cX7_linked 11 = .ok (.if_icmp .ge 17, 3) := by decide +kernel
theorem dX7_linked_14 : decode cX7_linked 14 = .ok (.iload_n 2, 1) := by decide +kernel
theorem dX7_linked_15 : decode cX7_linked 15 = .ok (.ifCond .lt 13, 3) := by decide +kernel
theorem dX7_linked_18 : decode cX7_linked 18 = .ok (.iload_n 2, 1) := by decide +kernel
theorem dX7_linked_19 : decode cX7_linked 19 = .ok (.iconst 3, 1) := by decide +kernel
theorem dX7_linked_20 : decode cX7_linked 20 = .ok (.if_icmp .ge 8, 3) := by decide +kernel
theorem dX7_linked_23 : decode cX7_linked 23 = .ok (.iload_n 1, 1) := by decide +kernel
theorem dX7_linked_24 : decode cX7_linked 24 = .ok (.iload_n 2, 1) := by decide +kernel
theorem dX7_linked_25 : decode cX7_linked 25 = .ok (.if_icmp .ne 5, 3) := by decide +kernel
theorem dX7_linked_28 : decode cX7_linked 28 = .ok (.iconst (-1), 1) := by decide +kernel
theorem dX7_linked_29 : decode cX7_linked 29 = .ok (.ireturn, 1) := by decide +kernel
theorem dX7_linked_30 : decode cX7_linked 30 = .ok (.aload_n 0, 1) := by decide +kernel
theorem dX7_linked_31 : decode cX7_linked 31 = .ok (.getfield 41, 3) := by decide +kernel
theorem dX7_linked_34 : decode cX7_linked 34 = .ok (.iconst 3, 1) := by decide +kernel
theorem dX7_linked_35 : decode cX7_linked 35 = .ok (.iload_n 1, 1) := by decide +kernel
theorem dX7_linked_36 : decode cX7_linked 36 = .ok (.imul, 1) := by decide +kernel
theorem dX7_linked_37 : decode cX7_linked 37 = .ok (.iload_n 2, 1) := by decide +kernel
theorem dX7_linked_38 : decode cX7_linked 38 = .ok (.iadd, 1) := by decide +kernel
theorem dX7_linked_39 : decode cX7_linked 39 = .ok (.iaload, 1) := by decide +kernel
theorem dX7_linked_40 : decode cX7_linked 40 = .ok (.ireturn, 1) := by decide +kernel
theorem dX7_clearance_0 : decode cX7_clearance 0 = .ok (.aload_n 0, 1) := by decide +kernel
theorem dX7_clearance_1 : decode cX7_clearance 1 = .ok (.iconst 0, 1) := by decide +kernel
theorem dX7_clearance_2 : decode cX7_clearance 2 = .ok (.putfield 96, 3) := by decide +kernel
theorem dX7_clearance_5 : decode cX7_clearance 5 = .ok (.aload_n 0, 1) := by decide +kernel
theorem dX7_clearance_6 : decode cX7_clearance 6 = .ok (.iload_n 1, 1) := by decide +kernel
theorem dX7_clearance_7 : decode cX7_clearance 7 = .ok (.invokevirtual 259, 3) := by decide +kernel
theorem dX7_clearance_10 : decode cX7_clearance 10 = .ok (.ifCond .ne 5, 3) := by decide +kernel
theorem dX7_clearance_13 : decode cX7_clearance 13 = .ok (.iconst (-1), 1) := by decide +kernel
theorem dX7_clearance_14 : decode cX7_clearance 14 = .ok (.ireturn, 1) := by decide +kernel
theorem dX7_clearance_15 : decode cX7_clearance 15 = .ok (.aload_n 0, 1) := by decide +kernel
theorem dX7_clearance_16 : decode cX7_clearance 16 = .ok (.invokevirtual 326, 3) := by decide +kernel
theorem dX7_clearance_19 : decode cX7_clearance 19 = .ok (.bipush (-2), 2) := by decide +kernel
theorem dX7_clearance_21 : decode cX7_clearance 21 = .ok (.istore_n 2, 1) := by decide +kernel
theorem dX7_clearance_22 : decode cX7_clearance 22 = .ok (.iconst 0, 1) := by decide +kernel
theorem dX7_clearance_23 : decode cX7_clearance 23 = .ok (.istore_n 3, 1) := by decide +kernel
theorem dX7_clearance_24 : decode cX7_clearance 24 = .ok (.iload_n 3, 1) := by decide +kernel
theorem dX7_clearance_25 : decode cX7_clearance 25 = .ok (.aload_n 0, 1) := by decide +kernel
theorem dX7_clearance_26 : decode cX7_clearance 26 = .ok (.getfield 280, 3) := by decide +kernel
theorem dX7_clearance_29 : decode cX7_clearance 29 = .ok (.if_icmp .ge 60, 3) := by decide +kernel
theorem dX7_clearance_32 : decode cX7_clearance 32 = .ok (.aload_n 0, 1) := by decide +kernel
theorem dX7_clearance_33 : decode cX7_clearance 33 = .ok (.iload_n 3, 1) := by decide +kernel
theorem dX7_clearance_34 : decode cX7_clearance 34 = .ok (.iload_n 1, 1) := by decide +kernel
theorem dX7_clearance_35 : decode cX7_clearance 35 = .ok (.invokevirtual 299, 3) := by decide +kernel
theorem dX7_clearance_38 : decode cX7_clearance 38 = .ok (.ifCond .ne 6, 3) := by decide +kernel
theorem dX7_clearance_41 : decode cX7_clearance 41 = .ok (.goto 42, 3) := by decide +kernel
theorem dX7_clearance_44 : decode cX7_clearance 44 = .ok (.aload_n 0, 1) := by decide +kernel
theorem dX7_clearance_45 : decode cX7_clearance 45 = .ok (.getfield 51, 3) := by decide +kernel
theorem dX7_clearance_48 : decode cX7_clearance 48 = .ok (.iconst 0, 1) := by decide +kernel
theorem dX7_clearance_49 : decode cX7_clearance 49 = .ok (.iload_n 1, 1) := by decide +kernel
theorem dX7_clearance_50 : decode cX7_clearance 50 = .ok (.iadd, 1) := by decide +kernel
theorem dX7_clearance_51 : decode cX7_clearance 51 = .ok (.iaload, 1) := by decide +kernel
theorem dX7_clearance_52 : decode cX7_clearance 52 = .ok (.aload_n 0, 1) := by decide +kernel
theorem dX7_clearance_53 : decode cX7_clearance 53 = .ok (.getfield 72, 3) := by decide +kernel
theorem dX7_clearance_56 : decode cX7_clearance 56 = .ok (.iload_n 3, 1) := by decide +kernel
theorem dX7_clearance_57 : decode cX7_clearance 57 = .ok (.iaload, 1) := by decide +kernel
theorem dX7_clearance_58 : decode cX7_clearance 58 = .ok (.isub, 1) := by decide +kernel
theorem dX7_clearance_59 : decode cX7_clearance 59 = .ok (.invokestatic 274, 3) := by decide +kernel
theorem dX7_clearance_62 : decode cX7_clearance 62 = .ok (.istore 4, 2) := by decide +kernel
theorem dX7_clearance_64 : decode cX7_clearance 64 = .ok (.iload_n 2, 1) := by decide +kernel
theorem dX7_clearance_65 : decode cX7_clearance 65 = .ok (.bipush (-2), 2) := by decide +kernel
theorem dX7_clearance_67 : decode cX7_clearance 67 = .ok (.if_icmp .eq 9, 3) := by decide +kernel
theorem dX7_clearance_70 : decode cX7_clearance 70 = .ok (.iload 4, 2) := by decide +kernel
theorem dX7_clearance_72 : decode cX7_clearance 72 = .ok (.iload_n 2, 1) := by decide +kernel
theorem dX7_clearance_73 : decode cX7_clearance 73 = .ok (.if_icmp .ge 8, 3) := by decide +kernel
theorem dX7_clearance_76 : decode cX7_clearance 76 = .ok (.iload 4, 2) := by decide +kernel
theorem dX7_clearance_78 : decode cX7_clearance 78 = .ok (.goto 4, 3) := by decide +kernel
theorem dX7_clearance_81 : decode cX7_clearance 81 = .ok (.iload_n 2, 1) := by decide +kernel
theorem dX7_clearance_82 : decode cX7_clearance 82 = .ok (.istore_n 2, 1) := by decide +kernel
theorem dX7_clearance_83 : decode cX7_clearance 83 = .ok (.iinc 3 1, 3) := by decide +kernel
theorem dX7_clearance_86 : decode cX7_clearance 86 = .ok (.goto (-62), 3) := by decide +kernel
theorem dX7_clearance_89 : decode cX7_clearance 89 = .ok (.iload_n 2, 1) := by decide +kernel
theorem dX7_clearance_90 : decode cX7_clearance 90 = .ok (.ireturn, 1) := by decide +kernel
theorem dX7_nearest_0 : decode cX7_nearest 0 = .ok (.aload_n 0, 1) := by decide +kernel
theorem dX7_nearest_1 : decode cX7_nearest 1 = .ok (.iconst 0, 1) := by decide +kernel
theorem dX7_nearest_2 : decode cX7_nearest 2 = .ok (.putfield 96, 3) := by decide +kernel
theorem dX7_nearest_5 : decode cX7_nearest 5 = .ok (.aload_n 0, 1) := by decide +kernel
theorem dX7_nearest_6 : decode cX7_nearest 6 = .ok (.iload_n 1, 1) := by decide +kernel
theorem dX7_nearest_7 : decode cX7_nearest 7 = .ok (.invokevirtual 259, 3) := by decide +kernel
theorem dX7_nearest_10 : decode cX7_nearest 10 = .ok (.ifCond .ne 5, 3) := by decide +kernel
theorem dX7_nearest_13 : decode cX7_nearest 13 = .ok (.iconst (-1), 1) := by decide +kernel
theorem dX7_nearest_14 : decode cX7_nearest 14 = .ok (.ireturn, 1) := by decide +kernel
theorem dX7_nearest_15 : decode cX7_nearest 15 = .ok (.bipush (-2), 2) := by decide +kernel
theorem dX7_nearest_17 : decode cX7_nearest 17 = .ok (.istore_n 2, 1) := by decide +kernel
theorem dX7_nearest_18 : decode cX7_nearest 18 = .ok (.iconst 0, 1) := by decide +kernel
theorem dX7_nearest_19 : decode cX7_nearest 19 = .ok (.istore_n 3, 1) := by decide +kernel
theorem dX7_nearest_20 : decode cX7_nearest 20 = .ok (.iload_n 3, 1) := by decide +kernel
theorem dX7_nearest_21 : decode cX7_nearest 21 = .ok (.aload_n 0, 1) := by decide +kernel
theorem dX7_nearest_22 : decode cX7_nearest 22 = .ok (.invokevirtual 232, 3) := by decide +kernel
theorem dX7_nearest_25 : decode cX7_nearest 25 = .ok (.if_icmp .ge 105, 3) := by decide +kernel
theorem dX7_nearest_28 : decode cX7_nearest 28 = .ok (.iload_n 3, 1) := by decide +kernel
theorem dX7_nearest_29 : decode cX7_nearest 29 = .ok (.iload_n 1, 1) := by decide +kernel
theorem dX7_nearest_30 : decode cX7_nearest 30 = .ok (.if_icmp .eq 94, 3) := by decide +kernel
theorem dX7_nearest_33 : decode cX7_nearest 33 = .ok (.aload_n 0, 1) := by decide +kernel
theorem dX7_nearest_34 : decode cX7_nearest 34 = .ok (.getfield 23, 3) := by decide +kernel
theorem dX7_nearest_37 : decode cX7_nearest 37 = .ok (.iload_n 3, 1) := by decide +kernel
theorem dX7_nearest_38 : decode cX7_nearest 38 = .ok (.iaload, 1) := by decide +kernel
theorem dX7_nearest_39 : decode cX7_nearest 39 = .ok (.aload_n 0, 1) := by decide +kernel
theorem dX7_nearest_40 : decode cX7_nearest 40 = .ok (.getfield 23, 3) := by decide +kernel
theorem dX7_nearest_43 : decode cX7_nearest 43 = .ok (.iload_n 1, 1) := by decide +kernel
theorem dX7_nearest_44 : decode cX7_nearest 44 = .ok (.iaload, 1) := by decide +kernel
theorem dX7_nearest_45 : decode cX7_nearest 45 = .ok (.if_icmp .ne 79, 3) := by decide +kernel
theorem dX7_nearest_48 : decode cX7_nearest 48 = .ok (.aload_n 0, 1) := by decide +kernel
theorem dX7_nearest_49 : decode cX7_nearest 49 = .ok (.getfield 51, 3) := by decide +kernel
theorem dX7_nearest_52 : decode cX7_nearest 52 = .ok (.iconst 0, 1) := by decide +kernel
theorem dX7_nearest_53 : decode cX7_nearest 53 = .ok (.iload_n 3, 1) := by decide +kernel
theorem dX7_nearest_54 : decode cX7_nearest 54 = .ok (.iadd, 1) := by decide +kernel
theorem dX7_nearest_55 : decode cX7_nearest 55 = .ok (.iaload, 1) := by decide +kernel
theorem dX7_nearest_56 : decode cX7_nearest 56 = .ok (.ifCond .eq 68, 3) := by decide +kernel
theorem dX7_nearest_59 : decode cX7_nearest 59 = .ok (.aload_n 0, 1) := by decide +kernel
theorem dX7_nearest_60 : decode cX7_nearest 60 = .ok (.getfield 51, 3) := by decide +kernel
theorem dX7_nearest_63 : decode cX7_nearest 63 = .ok (.iconst 0, 1) := by decide +kernel
theorem dX7_nearest_64 : decode cX7_nearest 64 = .ok (.iload_n 1, 1) := by decide +kernel
theorem dX7_nearest_65 : decode cX7_nearest 65 = .ok (.iadd, 1) := by decide +kernel
theorem dX7_nearest_66 : decode cX7_nearest 66 = .ok (.iaload, 1) := by decide +kernel
theorem dX7_nearest_67 : decode cX7_nearest 67 = .ok (.ifCond .ne 6, 3) := by decide +kernel
theorem dX7_nearest_70 : decode cX7_nearest 70 = .ok (.goto 54, 3) := by decide +kernel
theorem dX7_nearest_73 : decode cX7_nearest 73 = .ok (.iload_n 2, 1) := by decide +kernel
theorem dX7_nearest_74 : decode cX7_nearest 74 = .ok (.bipush (-2), 2) := by decide +kernel
theorem dX7_nearest_76 : decode cX7_nearest 76 = .ok (.if_icmp .eq 46, 3) := by decide +kernel
theorem dX7_nearest_79 : decode cX7_nearest 79 = .ok (.aload_n 0, 1) := by decide +kernel
theorem dX7_nearest_80 : decode cX7_nearest 80 = .ok (.getfield 51, 3) := by decide +kernel
theorem dX7_nearest_83 : decode cX7_nearest 83 = .ok (.iconst 0, 1) := by decide +kernel
theorem dX7_nearest_84 : decode cX7_nearest 84 = .ok (.iload_n 3, 1) := by decide +kernel
theorem dX7_nearest_85 : decode cX7_nearest 85 = .ok (.iadd, 1) := by decide +kernel
theorem dX7_nearest_86 : decode cX7_nearest 86 = .ok (.iaload, 1) := by decide +kernel
theorem dX7_nearest_87 : decode cX7_nearest 87 = .ok (.aload_n 0, 1) := by decide +kernel
theorem dX7_nearest_88 : decode cX7_nearest 88 = .ok (.getfield 51, 3) := by decide +kernel
theorem dX7_nearest_91 : decode cX7_nearest 91 = .ok (.iconst 0, 1) := by decide +kernel
theorem dX7_nearest_92 : decode cX7_nearest 92 = .ok (.iload_n 1, 1) := by decide +kernel
theorem dX7_nearest_93 : decode cX7_nearest 93 = .ok (.iadd, 1) := by decide +kernel
theorem dX7_nearest_94 : decode cX7_nearest 94 = .ok (.iaload, 1) := by decide +kernel
theorem dX7_nearest_95 : decode cX7_nearest 95 = .ok (.isub, 1) := by decide +kernel
theorem dX7_nearest_96 : decode cX7_nearest 96 = .ok (.invokestatic 274, 3) := by decide +kernel
theorem dX7_nearest_99 : decode cX7_nearest 99 = .ok (.aload_n 0, 1) := by decide +kernel
theorem dX7_nearest_100 : decode cX7_nearest 100 = .ok (.getfield 51, 3) := by decide +kernel
theorem dX7_nearest_103 : decode cX7_nearest 103 = .ok (.iconst 0, 1) := by decide +kernel
theorem dX7_nearest_104 : decode cX7_nearest 104 = .ok (.iload_n 2, 1) := by decide +kernel
theorem dX7_nearest_105 : decode cX7_nearest 105 = .ok (.iadd, 1) := by decide +kernel
theorem dX7_nearest_106 : decode cX7_nearest 106 = .ok (.iaload, 1) := by decide +kernel
theorem dX7_nearest_107 : decode cX7_nearest 107 = .ok (.aload_n 0, 1) := by decide +kernel
theorem dX7_nearest_108 : decode cX7_nearest 108 = .ok (.getfield 51, 3) := by decide +kernel
theorem dX7_nearest_111 : decode cX7_nearest 111 = .ok (.iconst 0, 1) := by decide +kernel
theorem dX7_nearest_112 : decode cX7_nearest 112 = .ok (.iload_n 1, 1) := by decide +kernel
theorem dX7_nearest_113 : decode cX7_nearest 113 = .ok (.iadd, 1) := by decide +kernel
theorem dX7_nearest_114 : decode cX7_nearest 114 = .ok (.iaload, 1) := by decide +kernel
theorem dX7_nearest_115 : decode cX7_nearest 115 = .ok (.isub, 1) := by decide +kernel
theorem dX7_nearest_116 : decode cX7_nearest 116 = .ok (.invokestatic 274, 3) := by decide +kernel
theorem dX7_nearest_119 : decode cX7_nearest 119 = .ok (.if_icmp .ge 5, 3) := by decide +kernel
theorem dX7_nearest_122 : decode cX7_nearest 122 = .ok (.iload_n 3, 1) := by decide +kernel
theorem dX7_nearest_123 : decode cX7_nearest 123 = .ok (.istore_n 2, 1) := by decide +kernel
theorem dX7_nearest_124 : decode cX7_nearest 124 = .ok (.iinc 3 1, 3) := by decide +kernel
theorem dX7_nearest_127 : decode cX7_nearest 127 = .ok (.goto (-107), 3) := by decide +kernel
theorem dX7_nearest_130 : decode cX7_nearest 130 = .ok (.iload_n 2, 1) := by decide +kernel
theorem dX7_nearest_131 : decode cX7_nearest 131 = .ok (.ireturn, 1) := by decide +kernel
theorem dX7_mostSpace_0 : decode cX7_mostSpace 0 = .ok (.aload_n 0, 1) := by decide +kernel
theorem dX7_mostSpace_1 : decode cX7_mostSpace 1 = .ok (.iconst 0, 1) := by decide +kernel
theorem dX7_mostSpace_2 : decode cX7_mostSpace 2 = .ok (.putfield 96, 3) := by decide +kernel
theorem dX7_mostSpace_5 : decode cX7_mostSpace 5 = .ok (.aload_n 0, 1) := by decide +kernel
theorem dX7_mostSpace_6 : decode cX7_mostSpace 6 = .ok (.bipush 20, 2) := by decide +kernel
theorem dX7_mostSpace_8 : decode cX7_mostSpace 8 = .ok (.putfield 244, 3) := by decide +kernel
theorem dX7_mostSpace_11 : decode cX7_mostSpace 11 = .ok (.aload_n 0, 1) := by decide +kernel
theorem dX7_mostSpace_12 : decode cX7_mostSpace 12 = .ok (.getfield 244, 3) := by decide +kernel
theorem dX7_mostSpace_15 : decode cX7_mostSpace 15 = .ok (.ifCond .le 23, 3) := by decide +kernel
theorem dX7_mostSpace_18 : decode cX7_mostSpace 18 = .ok (.aload_n 0, 1) := by decide +kernel
theorem dX7_mostSpace_19 : decode cX7_mostSpace 19 = .ok (.invokevirtual 384, 3) := by decide +kernel
theorem dX7_mostSpace_22 : decode cX7_mostSpace 22 = .ok (.ifCond .le 16, 3) := by decide +kernel
theorem dX7_mostSpace_25 : decode cX7_mostSpace 25 = .ok (.aload_n 0, 1) := by decide +kernel
theorem dX7_mostSpace_26 : decode cX7_mostSpace 26 = .ok (.dup, 1) := by decide +kernel
theorem dX7_mostSpace_27 : decode cX7_mostSpace 27 = .ok (.getfield 244, 3) := by decide +kernel
theorem dX7_mostSpace_30 : decode cX7_mostSpace 30 = .ok (.iconst 1, 1) := by decide +kernel
theorem dX7_mostSpace_31 : decode cX7_mostSpace 31 = .ok (.isub, 1) := by decide +kernel
theorem dX7_mostSpace_32 : decode cX7_mostSpace 32 = .ok (.putfield 244, 3) := by decide +kernel
theorem dX7_mostSpace_35 : decode cX7_mostSpace 35 = .ok (.goto (-24), 3) := by decide +kernel
theorem dX7_mostSpace_38 : decode cX7_mostSpace 38 = .ok (.aload_n 0, 1) := by decide +kernel
theorem dX7_mostSpace_39 : decode cX7_mostSpace 39 = .ok (.getfield 244, 3) := by decide +kernel
theorem dX7_mostSpace_42 : decode cX7_mostSpace 42 = .ok (.ifCond .ne 8, 3) := by decide +kernel
theorem dX7_mostSpace_45 : decode cX7_mostSpace 45 = .ok (.bipush (-2), 2) := by decide +kernel
theorem dX7_mostSpace_47 : decode cX7_mostSpace 47 = .ok (.goto 7, 3) := by decide +kernel
theorem dX7_mostSpace_50 : decode cX7_mostSpace 50 = .ok (.aload_n 0, 1) := by decide +kernel
theorem dX7_mostSpace_51 : decode cX7_mostSpace 51 = .ok (.getfield 244, 3) := by decide +kernel
theorem dX7_mostSpace_54 : decode cX7_mostSpace 54 = .ok (.istore_n 1, 1) := by decide +kernel
theorem dX7_mostSpace_55 : decode cX7_mostSpace 55 = .ok (.aload_n 0, 1) := by decide +kernel
theorem dX7_mostSpace_56 : decode cX7_mostSpace 56 = .ok (.invokevirtual 235, 3) := by decide +kernel
theorem dX7_mostSpace_59 : decode cX7_mostSpace 59 = .ok (.iload_n 1, 1) := by decide +kernel
theorem dX7_mostSpace_60 : decode cX7_mostSpace 60 = .ok (.ireturn, 1) := by decide +kernel
theorem dX7_spare_0 : decode cX7_spare 0 = .ok (.aload_n 0, 1) := by decide +kernel
theorem dX7_spare_1 : decode cX7_spare 1 = .ok (.iconst 0, 1) := by decide +kernel
theorem dX7_spare_2 : decode cX7_spare 2 = .ok (.putfield 96, 3) := by decide +kernel
theorem dX7_spare_5 : decode cX7_spare 5 = .ok (.aload_n 0, 1) := by decide +kernel
theorem dX7_spare_6 : decode cX7_spare 6 = .ok (.iload_n 1, 1) := by decide +kernel
theorem dX7_spare_7 : decode cX7_spare 7 = .ok (.invokevirtual 259, 3) := by decide +kernel
theorem dX7_spare_10 : decode cX7_spare 10 = .ok (.ifCond .ne 5, 3) := by decide +kernel
theorem dX7_spare_13 : decode cX7_spare 13 = .ok (.iconst (-1), 1) := by decide +kernel
theorem dX7_spare_14 : decode cX7_spare 14 = .ok (.ireturn, 1) := by decide +kernel
theorem dX7_spare_15 : decode cX7_spare 15 = .ok (.aload_n 0, 1) := by decide +kernel
theorem dX7_spare_16 : decode cX7_spare 16 = .ok (.invokevirtual 348, 3) := by decide +kernel
theorem dX7_spare_19 : decode cX7_spare 19 = .ok (.iconst 0, 1) := by decide +kernel
theorem dX7_spare_20 : decode cX7_spare 20 = .ok (.istore_n 2, 1) := by decide +kernel
theorem dX7_spare_21 : decode cX7_spare 21 = .ok (.iconst 1, 1) := by decide +kernel
theorem dX7_spare_22 : decode cX7_spare 22 = .ok (.istore_n 3, 1) := by decide +kernel
theorem dX7_spare_23 : decode cX7_spare 23 = .ok (.iload_n 3, 1) := by decide +kernel
theorem dX7_spare_24 : decode cX7_spare 24 = .ok (.aload_n 0, 1) := by decide +kernel
theorem dX7_spare_25 : decode cX7_spare 25 = .ok (.getfield 238, 3) := by decide +kernel
theorem dX7_spare_28 : decode cX7_spare 28 = .ok (.if_icmp .gt 43, 3) := by decide +kernel
theorem dX7_spare_31 : decode cX7_spare 31 = .ok (.aload_n 0, 1) := by decide +kernel
theorem dX7_spare_32 : decode cX7_spare 32 = .ok (.getfield 51, 3) := by decide +kernel
theorem dX7_spare_35 : decode cX7_spare 35 = .ok (.iconst 0, 1) := by decide +kernel
theorem dX7_spare_36 : decode cX7_spare 36 = .ok (.iload_n 1, 1) := by decide +kernel
theorem dX7_spare_37 : decode cX7_spare 37 = .ok (.iadd, 1) := by decide +kernel
theorem dX7_spare_38 : decode cX7_spare 38 = .ok (.iload_n 3, 1) := by decide +kernel
theorem dX7_spare_39 : decode cX7_spare 39 = .ok (.iastore, 1) := by decide +kernel
theorem dX7_spare_40 : decode cX7_spare 40 = .ok (.aload_n 0, 1) := by decide +kernel
theorem dX7_spare_41 : decode cX7_spare 41 = .ok (.invokevirtual 332, 3) := by decide +kernel
theorem dX7_spare_44 : decode cX7_spare 44 = .ok (.ifCond .eq 17, 3) := by decide +kernel
theorem dX7_spare_47 : decode cX7_spare 47 = .ok (.aload_n 0, 1) := by decide +kernel
theorem dX7_spare_48 : decode cX7_spare 48 = .ok (.aload_n 0, 1) := by decide +kernel
theorem dX7_spare_49 : decode cX7_spare 49 = .ok (.invokevirtual 351, 3) := by decide +kernel
theorem dX7_spare_52 : decode cX7_spare 52 = .ok (.invokevirtual 354, 3) := by decide +kernel
theorem dX7_spare_55 : decode cX7_spare 55 = .ok (.ifCond .lt 6, 3) := by decide +kernel
theorem dX7_spare_58 : decode cX7_spare 58 = .ok (.iinc 2 1, 3) := by decide +kernel
theorem dX7_spare_61 : decode cX7_spare 61 = .ok (.aload_n 0, 1) := by decide +kernel
theorem dX7_spare_62 : decode cX7_spare 62 = .ok (.invokevirtual 357, 3) := by decide +kernel
theorem dX7_spare_65 : decode cX7_spare 65 = .ok (.iinc 3 1, 3) := by decide +kernel
theorem dX7_spare_68 : decode cX7_spare 68 = .ok (.goto (-45), 3) := by decide +kernel
theorem dX7_spare_71 : decode cX7_spare 71 = .ok (.iload_n 2, 1) := by decide +kernel
theorem dX7_spare_72 : decode cX7_spare 72 = .ok (.ireturn, 1) := by decide +kernel
theorem dX7_hasHits_0 : decode cX7_hasHits 0 = .ok (.aload_n 0, 1) := by decide +kernel
theorem dX7_hasHits_1 : decode cX7_hasHits 1 = .ok (.invokevirtual 326, 3) := by decide +kernel
theorem dX7_hasHits_4 : decode cX7_hasHits 4 = .ok (.aload_n 0, 1) := by decide +kernel
theorem dX7_hasHits_5 : decode cX7_hasHits 5 = .ok (.invokevirtual 381, 3) := by decide +kernel
theorem dX7_hasHits_8 : decode cX7_hasHits 8 = .ok (.ifCond .le 7, 3) := by decide +kernel
theorem dX7_hasHits_11 : decode cX7_hasHits 11 = .ok (.iconst 1, 1) := by decide +kernel
theorem dX7_hasHits_12 : decode cX7_hasHits 12 = .ok (.goto 4, 3) := by decide +kernel
theorem dX7_hasHits_15 : decode cX7_hasHits 15 = .ok (.iconst 0, 1) := by decide +kernel
theorem dX7_hasHits_16 : decode cX7_hasHits 16 = .ok (.ireturn, 1) := by decide +kernel
theorem dX7_mostPower_0 : decode cX7_mostPower 0 = .ok (.aload_n 0, 1) := by decide +kernel
theorem dX7_mostPower_1 : decode cX7_mostPower 1 = .ok (.iconst 0, 1) := by decide +kernel
theorem dX7_mostPower_2 : decode cX7_mostPower 2 = .ok (.putfield 96, 3) := by decide +kernel
theorem dX7_mostPower_5 : decode cX7_mostPower 5 = .ok (.aload_n 0, 1) := by decide +kernel
theorem dX7_mostPower_6 : decode cX7_mostPower 6 = .ok (.iload_n 1, 1) := by decide +kernel
theorem dX7_mostPower_7 : decode cX7_mostPower 7 = .ok (.invokevirtual 259, 3) := by decide +kernel
theorem dX7_mostPower_10 : decode cX7_mostPower 10 = .ok (.ifCond .ne 5, 3) := by decide +kernel
theorem dX7_mostPower_13 : decode cX7_mostPower 13 = .ok (.iconst (-1), 1) := by decide +kernel
theorem dX7_mostPower_14 : decode cX7_mostPower 14 = .ok (.ireturn, 1) := by decide +kernel
theorem dX7_mostPower_15 : decode cX7_mostPower 15 = .ok (.aload_n 0, 1) := by decide +kernel
theorem dX7_mostPower_16 : decode cX7_mostPower 16 = .ok (.getfield 51, 3) := by decide +kernel
theorem dX7_mostPower_19 : decode cX7_mostPower 19 = .ok (.bipush 6, 2) := by decide +kernel
theorem dX7_mostPower_21 : decode cX7_mostPower 21 = .ok (.iload_n 1, 1) := by decide +kernel
theorem dX7_mostPower_22 : decode cX7_mostPower 22 = .ok (.iadd, 1) := by decide +kernel
theorem dX7_mostPower_23 : decode cX7_mostPower 23 = .ok (.iaload, 1) := by decide +kernel
theorem dX7_mostPower_24 : decode cX7_mostPower 24 = .ok (.istore_n 2, 1) := by decide +kernel
theorem dX7_mostPower_25 : decode cX7_mostPower 25 = .ok (.bipush 30, 2) := by decide +kernel
theorem dX7_mostPower_27 : decode cX7_mostPower 27 = .ok (.istore_n 3, 1) := by decide +kernel
theorem dX7_mostPower_28 : decode cX7_mostPower 28 = .ok (.aload_n 0, 1) := by decide +kernel
theorem dX7_mostPower_29 : decode cX7_mostPower 29 = .ok (.getfield 51, 3) := by decide +kernel
theorem dX7_mostPower_32 : decode cX7_mostPower 32 = .ok (.bipush 6, 2) := by decide +kernel
theorem dX7_mostPower_34 : decode cX7_mostPower 34 = .ok (.iload_n 1, 1) := by decide +kernel
theorem dX7_mostPower_35 : decode cX7_mostPower 35 = .ok (.iadd, 1) := by decide +kernel
theorem dX7_mostPower_36 : decode cX7_mostPower 36 = .ok (.iload_n 3, 1) := by decide +kernel
theorem dX7_mostPower_37 : decode cX7_mostPower 37 = .ok (.iastore, 1) := by decide +kernel
theorem dX7_mostPower_38 : decode cX7_mostPower 38 = .ok (.iload_n 3, 1) := by decide +kernel
theorem dX7_mostPower_39 : decode cX7_mostPower 39 = .ok (.ifCond .lt 26, 3) := by decide +kernel
theorem dX7_mostPower_42 : decode cX7_mostPower 42 = .ok (.aload_n 0, 1) := by decide +kernel
theorem dX7_mostPower_43 : decode cX7_mostPower 43 = .ok (.invokevirtual 405, 3) := by decide +kernel
theorem dX7_mostPower_46 : decode cX7_mostPower 46 = .ok (.ifCond .eq 19, 3) := by decide +kernel
theorem dX7_mostPower_49 : decode cX7_mostPower 49 = .ok (.iinc 3 (-1), 3) := by decide +kernel
theorem dX7_mostPower_52 : decode cX7_mostPower 52 = .ok (.aload_n 0, 1) := by decide +kernel
theorem dX7_mostPower_53 : decode cX7_mostPower 53 = .ok (.getfield 51, 3) := by decide +kernel
theorem dX7_mostPower_56 : decode cX7_mostPower 56 = .ok (.bipush 6, 2) := by decide +kernel
theorem dX7_mostPower_58 : decode cX7_mostPower 58 = .ok (.iload_n 1, 1) := by decide +kernel
theorem dX7_mostPower_59 : decode cX7_mostPower 59 = .ok (.iadd, 1) := by decide +kernel
theorem dX7_mostPower_60 : decode cX7_mostPower 60 = .ok (.iload_n 3, 1) := by decide +kernel
theorem dX7_mostPower_61 : decode cX7_mostPower 61 = .ok (.iastore, 1) := by decide +kernel
theorem dX7_mostPower_62 : decode cX7_mostPower 62 = .ok (.goto (-24), 3) := by decide +kernel
theorem dX7_mostPower_65 : decode cX7_mostPower 65 = .ok (.aload_n 0, 1) := by decide +kernel
theorem dX7_mostPower_66 : decode cX7_mostPower 66 = .ok (.getfield 51, 3) := by decide +kernel
theorem dX7_mostPower_69 : decode cX7_mostPower 69 = .ok (.bipush 6, 2) := by decide +kernel
theorem dX7_mostPower_71 : decode cX7_mostPower 71 = .ok (.iload_n 1, 1) := by decide +kernel
theorem dX7_mostPower_72 : decode cX7_mostPower 72 = .ok (.iadd, 1) := by decide +kernel
theorem dX7_mostPower_73 : decode cX7_mostPower 73 = .ok (.iload_n 2, 1) := by decide +kernel
theorem dX7_mostPower_74 : decode cX7_mostPower 74 = .ok (.iastore, 1) := by decide +kernel
theorem dX7_mostPower_75 : decode cX7_mostPower 75 = .ok (.iload_n 3, 1) := by decide +kernel
theorem dX7_mostPower_76 : decode cX7_mostPower 76 = .ok (.ifCond .ge 8, 3) := by decide +kernel
theorem dX7_mostPower_79 : decode cX7_mostPower 79 = .ok (.bipush (-2), 2) := by decide +kernel
theorem dX7_mostPower_81 : decode cX7_mostPower 81 = .ok (.goto 4, 3) := by decide +kernel
theorem dX7_mostPower_84 : decode cX7_mostPower 84 = .ok (.iload_n 3, 1) := by decide +kernel
theorem dX7_mostPower_85 : decode cX7_mostPower 85 = .ok (.ireturn, 1) := by decide +kernel
theorem dX7_mostGuard_0 : decode cX7_mostGuard 0 = .ok (.aload_n 0, 1) := by decide +kernel
theorem dX7_mostGuard_1 : decode cX7_mostGuard 1 = .ok (.iconst 0, 1) := by decide +kernel
theorem dX7_mostGuard_2 : decode cX7_mostGuard 2 = .ok (.putfield 96, 3) := by decide +kernel
theorem dX7_mostGuard_5 : decode cX7_mostGuard 5 = .ok (.aload_n 0, 1) := by decide +kernel
theorem dX7_mostGuard_6 : decode cX7_mostGuard 6 = .ok (.iconst 5, 1) := by decide +kernel
theorem dX7_mostGuard_7 : decode cX7_mostGuard 7 = .ok (.putfield 241, 3) := by decide +kernel
theorem dX7_mostGuard_10 : decode cX7_mostGuard 10 = .ok (.aload_n 0, 1) := by decide +kernel
theorem dX7_mostGuard_11 : decode cX7_mostGuard 11 = .ok (.getfield 241, 3) := by decide +kernel
theorem dX7_mostGuard_14 : decode cX7_mostGuard 14 = .ok (.ifCond .lt 23, 3) := by decide +kernel
theorem dX7_mostGuard_17 : decode cX7_mostGuard 17 = .ok (.aload_n 0, 1) := by decide +kernel
theorem dX7_mostGuard_18 : decode cX7_mostGuard 18 = .ok (.invokevirtual 405, 3) := by decide +kernel
theorem dX7_mostGuard_21 : decode cX7_mostGuard 21 = .ok (.ifCond .eq 16, 3) := by decide +kernel
theorem dX7_mostGuard_24 : decode cX7_mostGuard 24 = .ok (.aload_n 0, 1) := by decide +kernel
theorem dX7_mostGuard_25 : decode cX7_mostGuard 25 = .ok (.dup, 1) := by decide +kernel
theorem dX7_mostGuard_26 : decode cX7_mostGuard 26 = .ok (.getfield 241, 3) := by decide +kernel
theorem dX7_mostGuard_29 : decode cX7_mostGuard 29 = .ok (.iconst 1, 1) := by decide +kernel
theorem dX7_mostGuard_30 : decode cX7_mostGuard 30 = .ok (.isub, 1) := by decide +kernel
theorem dX7_mostGuard_31 : decode cX7_mostGuard 31 = .ok (.putfield 241, 3) := by decide +kernel
theorem dX7_mostGuard_34 : decode cX7_mostGuard 34 = .ok (.goto (-24), 3) := by decide +kernel
theorem dX7_mostGuard_37 : decode cX7_mostGuard 37 = .ok (.aload_n 0, 1) := by decide +kernel
theorem dX7_mostGuard_38 : decode cX7_mostGuard 38 = .ok (.getfield 241, 3) := by decide +kernel
theorem dX7_mostGuard_41 : decode cX7_mostGuard 41 = .ok (.ifCond .ge 8, 3) := by decide +kernel
theorem dX7_mostGuard_44 : decode cX7_mostGuard 44 = .ok (.bipush (-2), 2) := by decide +kernel
theorem dX7_mostGuard_46 : decode cX7_mostGuard 46 = .ok (.goto 7, 3) := by decide +kernel
theorem dX7_mostGuard_49 : decode cX7_mostGuard 49 = .ok (.aload_n 0, 1) := by decide +kernel
theorem dX7_mostGuard_50 : decode cX7_mostGuard 50 = .ok (.getfield 241, 3) := by decide +kernel
theorem dX7_mostGuard_53 : decode cX7_mostGuard 53 = .ok (.istore_n 1, 1) := by decide +kernel
theorem dX7_mostGuard_54 : decode cX7_mostGuard 54 = .ok (.aload_n 0, 1) := by decide +kernel
theorem dX7_mostGuard_55 : decode cX7_mostGuard 55 = .ok (.invokevirtual 235, 3) := by decide +kernel
theorem dX7_mostGuard_58 : decode cX7_mostGuard 58 = .ok (.iload_n 1, 1) := by decide +kernel
theorem dX7_mostGuard_59 : decode cX7_mostGuard 59 = .ok (.ireturn, 1) := by decide +kernel
theorem dX7_draw_0 : decode cX7_draw 0 = .ok (.aload_n 0, 1) := by decide +kernel
theorem dX7_draw_1 : decode cX7_draw 1 = .ok (.aload_n 0, 1) := by decide +kernel
theorem dX7_draw_2 : decode cX7_draw 2 = .ok (.getfield 408, 3) := by decide +kernel
theorem dX7_draw_5 : decode cX7_draw 5 = .ok (.ldc_w 411, 3) := by decide +kernel
theorem dX7_draw_8 : decode cX7_draw 8 = .ok (.imul, 1) := by decide +kernel
theorem dX7_draw_9 : decode cX7_draw 9 = .ok (.sipush 12345, 3) := by decide +kernel
theorem dX7_draw_12 : decode cX7_draw 12 = .ok (.iadd, 1) := by decide +kernel
theorem dX7_draw_13 : decode cX7_draw 13 = .ok (.ldc_w 412, 3) := by decide +kernel
theorem dX7_draw_16 : decode cX7_draw 16 = .ok (.iand, 1) := by decide +kernel
theorem dX7_draw_17 : decode cX7_draw 17 = .ok (.putfield 408, 3) := by decide +kernel
theorem dX7_draw_20 : decode cX7_draw 20 = .ok (.aload_n 0, 1) := by decide +kernel
theorem dX7_draw_21 : decode cX7_draw 21 = .ok (.getfield 408, 3) := by decide +kernel
theorem dX7_draw_24 : decode cX7_draw 24 = .ok (.bipush 16, 2) := by decide +kernel
theorem dX7_draw_26 : decode cX7_draw 26 = .ok (.ishr, 1) := by decide +kernel
theorem dX7_draw_27 : decode cX7_draw 27 = .ok (.iload_n 1, 1) := by decide +kernel
theorem dX7_draw_28 : decode cX7_draw 28 = .ok (.irem, 1) := by decide +kernel
theorem dX7_draw_29 : decode cX7_draw 29 = .ok (.ireturn, 1) := by decide +kernel
theorem dX7_chance_0 : decode cX7_chance 0 = .ok (.aload_n 0, 1) := by decide +kernel
theorem dX7_chance_1 : decode cX7_chance 1 = .ok (.iconst 0, 1) := by decide +kernel
theorem dX7_chance_2 : decode cX7_chance 2 = .ok (.putfield 96, 3) := by decide +kernel
theorem dX7_chance_5 : decode cX7_chance 5 = .ok (.iload_n 1, 1) := by decide +kernel
theorem dX7_chance_6 : decode cX7_chance 6 = .ok (.iconst (-1), 1) := by decide +kernel
theorem dX7_chance_7 : decode cX7_chance 7 = .ok (.if_icmp .lt 23, 3) := by decide +kernel
theorem dX7_chance_10 : decode cX7_chance 10 = .ok (.iload_n 2, 1) := by decide +kernel
theorem dX7_chance_11 : decode cX7_chance 11 = .ok (.iconst 1, 1) := by decide +kernel
theorem dX7_chance_12 : decode cX7_chance 12 = .ok (.if_icmp .lt 18, 3) := by decide +kernel
theorem dX7_chance_15 : decode cX7_chance 15 = .ok (.iload_n 2, 1) := by decide +kernel
theorem dX7_chance_16 : decode cX7_chance 16 = .ok (.bipush 20, 2) := by decide +kernel
theorem dX7_chance_18 : decode cX7_chance 18 = .ok (.if_icmp .gt 12, 3) := by decide +kernel
theorem dX7_chance_21 : decode cX7_chance 21 = .ok (.iload_n 3, 1) := by decide +kernel
theorem dX7_chance_22 : decode cX7_chance 22 = .ok (.ifCond .lt 8, 3) := by decide +kernel
theorem dX7_chance_25 : decode cX7_chance 25 = .ok (.iload_n 3, 1) := by decide +kernel
theorem dX7_chance_26 : decode cX7_chance 26 = .ok (.iconst 2, 1) := by decide +kernel
theorem dX7_chance_27 : decode cX7_chance 27 = .ok (.if_icmp .le 5, 3) := by decide +kernel
theorem dX7_chance_30 : decode cX7_chance 30 = .ok (.iconst (-1), 1) := by decide +kernel
theorem dX7_chance_31 : decode cX7_chance 31 = .ok (.ireturn, 1) := by decide +kernel
theorem dX7_chance_32 : decode cX7_chance 32 = .ok (.aload_n 0, 1) := by decide +kernel
theorem dX7_chance_33 : decode cX7_chance 33 = .ok (.iload_n 1, 1) := by decide +kernel
theorem dX7_chance_34 : decode cX7_chance 34 = .ok (.iconst (-1), 1) := by decide +kernel
theorem dX7_chance_35 : decode cX7_chance 35 = .ok (.if_icmp .ne 13, 3) := by decide +kernel
theorem dX7_chance_38 : decode cX7_chance 38 = .ok (.aload_n 0, 1) := by decide +kernel
theorem dX7_chance_39 : decode cX7_chance 39 = .ok (.getfield 13, 3) := by decide +kernel
theorem dX7_chance_42 : decode cX7_chance 42 = .ok (.bipush 9, 2) := by decide +kernel
theorem dX7_chance_44 : decode cX7_chance 44 = .ok (.iaload, 1) := by decide +kernel
theorem dX7_chance_45 : decode cX7_chance 45 = .ok (.goto 4, 3) := by decide +kernel
theorem dX7_chance_48 : decode cX7_chance 48 = .ok (.iload_n 1, 1) := by decide +kernel
theorem dX7_chance_49 : decode cX7_chance 49 = .ok (.putfield 408, 3) := by decide +kernel
theorem dX7_chance_52 : decode cX7_chance 52 = .ok (.iconst 0, 1) := by decide +kernel
theorem dX7_chance_53 : decode cX7_chance 53 = .ok (.istore 4, 2) := by decide +kernel
theorem dX7_chance_55 : decode cX7_chance 55 = .ok (.iload 4, 2) := by decide +kernel
theorem dX7_chance_57 : decode cX7_chance 57 = .ok (.bipush 79, 2) := by decide +kernel
theorem dX7_chance_59 : decode cX7_chance 59 = .ok (.if_icmp .ge 23, 3) := by decide +kernel
theorem dX7_chance_62 : decode cX7_chance 62 = .ok (.aload_n 0, 1) := by decide +kernel
theorem dX7_chance_63 : decode cX7_chance 63 = .ok (.getfield 84, 3) := by decide +kernel
theorem dX7_chance_66 : decode cX7_chance 66 = .ok (.iload 4, 2) := by decide +kernel
theorem dX7_chance_68 : decode cX7_chance 68 = .ok (.aload_n 0, 1) := by decide +kernel
theorem dX7_chance_69 : decode cX7_chance 69 = .ok (.getfield 51, 3) := by decide +kernel
theorem dX7_chance_72 : decode cX7_chance 72 = .ok (.iload 4, 2) := by decide +kernel
theorem dX7_chance_74 : decode cX7_chance 74 = .ok (.iaload, 1) := by decide +kernel
theorem dX7_chance_75 : decode cX7_chance 75 = .ok (.iastore, 1) := by decide +kernel
theorem dX7_chance_76 : decode cX7_chance 76 = .ok (.iinc 4 1, 3) := by decide +kernel
theorem dX7_chance_79 : decode cX7_chance 79 = .ok (.goto (-24), 3) := by decide +kernel
theorem dX7_chance_82 : decode cX7_chance 82 = .ok (.iconst 0, 1) := by decide +kernel
theorem dX7_chance_83 : decode cX7_chance 83 = .ok (.istore 4, 2) := by decide +kernel
theorem dX7_chance_85 : decode cX7_chance 85 = .ok (.iconst 0, 1) := by decide +kernel
theorem dX7_chance_86 : decode cX7_chance 86 = .ok (.istore 5, 2) := by decide +kernel
theorem dX7_chance_88 : decode cX7_chance 88 = .ok (.iload 5, 2) := by decide +kernel
theorem dX7_chance_90 : decode cX7_chance 90 = .ok (.iload_n 2, 1) := by decide +kernel
theorem dX7_chance_91 : decode cX7_chance 91 = .ok (.if_icmp .ge 91, 3) := by decide +kernel
theorem dX7_chance_94 : decode cX7_chance 94 = .ok (.aload_n 0, 1) := by decide +kernel
theorem dX7_chance_95 : decode cX7_chance 95 = .ok (.aload_n 0, 1) := by decide +kernel
theorem dX7_chance_96 : decode cX7_chance 96 = .ok (.getfield 238, 3) := by decide +kernel
theorem dX7_chance_99 : decode cX7_chance 99 = .ok (.invokevirtual 413, 3) := by decide +kernel
theorem dX7_chance_102 : decode cX7_chance 102 = .ok (.iconst 1, 1) := by decide +kernel
theorem dX7_chance_103 : decode cX7_chance 103 = .ok (.iadd, 1) := by decide +kernel
theorem dX7_chance_104 : decode cX7_chance 104 = .ok (.istore 6, 2) := by decide +kernel
theorem dX7_chance_106 : decode cX7_chance 106 = .ok (.aload_n 0, 1) := by decide +kernel
theorem dX7_chance_107 : decode cX7_chance 107 = .ok (.getfield 51, 3) := by decide +kernel
theorem dX7_chance_110 : decode cX7_chance 110 = .ok (.bipush 12, 2) := by decide +kernel
theorem dX7_chance_112 : decode cX7_chance 112 = .ok (.iload 6, 2) := by decide +kernel
theorem dX7_chance_114 : decode cX7_chance 114 = .ok (.iadd, 1) := by decide +kernel
theorem dX7_chance_115 : decode cX7_chance 115 = .ok (.iconst 1, 1) := by decide +kernel
theorem dX7_chance_116 : decode cX7_chance 116 = .ok (.iastore, 1) := by decide +kernel
theorem dX7_chance_117 : decode cX7_chance 117 = .ok (.iconst 0, 1) := by decide +kernel
theorem dX7_chance_118 : decode cX7_chance 118 = .ok (.istore 7, 2) := by decide +kernel
theorem dX7_chance_120 : decode cX7_chance 120 = .ok (.iload 7, 2) := by decide +kernel
theorem dX7_chance_122 : decode cX7_chance 122 = .ok (.aload_n 0, 1) := by decide +kernel
theorem dX7_chance_123 : decode cX7_chance 123 = .ok (.invokevirtual 232, 3) := by decide +kernel
theorem dX7_chance_126 : decode cX7_chance 126 = .ok (.if_icmp .ge 50, 3) := by decide +kernel
theorem dX7_chance_129 : decode cX7_chance 129 = .ok (.aload_n 0, 1) := by decide +kernel
theorem dX7_chance_130 : decode cX7_chance 130 = .ok (.getfield 51, 3) := by decide +kernel
theorem dX7_chance_133 : decode cX7_chance 133 = .ok (.iconst 0, 1) := by decide +kernel
theorem dX7_chance_134 : decode cX7_chance 134 = .ok (.iload 7, 2) := by decide +kernel
theorem dX7_chance_136 : decode cX7_chance 136 = .ok (.iadd, 1) := by decide +kernel
theorem dX7_chance_137 : decode cX7_chance 137 = .ok (.iaload, 1) := by decide +kernel
theorem dX7_chance_138 : decode cX7_chance 138 = .ok (.iload 6, 2) := by decide +kernel
theorem dX7_chance_140 : decode cX7_chance 140 = .ok (.if_icmp .eq 6, 3) := by decide +kernel
theorem dX7_chance_143 : decode cX7_chance 143 = .ok (.goto 27, 3) := by decide +kernel
theorem dX7_chance_146 : decode cX7_chance 146 = .ok (.iinc 4 1, 3) := by decide +kernel
theorem dX7_chance_149 : decode cX7_chance 149 = .ok (.aload_n 0, 1) := by decide +kernel
theorem dX7_chance_150 : decode cX7_chance 150 = .ok (.iconst 1, 1) := by decide +kernel
theorem dX7_chance_151 : decode cX7_chance 151 = .ok (.iload 7, 2) := by decide +kernel
theorem dX7_chance_153 : decode cX7_chance 153 = .ok (.ishl, 1) := by decide +kernel
theorem dX7_chance_154 : decode cX7_chance 154 = .ok (.invokevirtual 354, 3) := by decide +kernel
theorem dX7_chance_157 : decode cX7_chance 157 = .ok (.ifCond .ge 13, 3) := by decide +kernel
theorem dX7_chance_160 : decode cX7_chance 160 = .ok (.aload_n 0, 1) := by decide +kernel
theorem dX7_chance_161 : decode cX7_chance 161 = .ok (.getfield 51, 3) := by decide +kernel
theorem dX7_chance_164 : decode cX7_chance 164 = .ok (.iconst 0, 1) := by decide +kernel
theorem dX7_chance_165 : decode cX7_chance 165 = .ok (.iload 7, 2) := by decide +kernel
theorem dX7_chance_167 : decode cX7_chance 167 = .ok (.iadd, 1) := by decide +kernel
theorem dX7_chance_168 : decode cX7_chance 168 = .ok (.iconst 0, 1) := by decide +kernel
theorem dX7_chance_169 : decode cX7_chance 169 = .ok (.iastore, 1) := by decide +kernel
theorem dX7_chance_170 : decode cX7_chance 170 = .ok (.iinc 7 1, 3) := by decide +kernel
theorem dX7_chance_173 : decode cX7_chance 173 = .ok (.goto (-53), 3) := by decide +kernel
theorem dX7_chance_176 : decode cX7_chance 176 = .ok (.iinc 5 1, 3) := by decide +kernel
theorem dX7_chance_179 : decode cX7_chance 179 = .ok (.goto (-91), 3) := by decide +kernel
theorem dX7_chance_182 : decode cX7_chance 182 = .ok (.iload_n 3, 1) := by decide +kernel
theorem dX7_chance_183 : decode cX7_chance 183 = .ok (.ifCond .ne 10, 3) := by decide +kernel
theorem dX7_chance_186 : decode cX7_chance 186 = .ok (.aload_n 0, 1) := by decide +kernel
theorem dX7_chance_187 : decode cX7_chance 187 = .ok (.invokevirtual 256, 3) := by decide +kernel
theorem dX7_chance_190 : decode cX7_chance 190 = .ok (.goto 25, 3) := by decide +kernel
theorem dX7_chance_193 : decode cX7_chance 193 = .ok (.iload_n 3, 1) := by decide +kernel
theorem dX7_chance_194 : decode cX7_chance 194 = .ok (.iconst 1, 1) := by decide +kernel
theorem dX7_chance_195 : decode cX7_chance 195 = .ok (.if_icmp .ne 8, 3) := by decide +kernel
theorem dX7_chance_198 : decode cX7_chance 198 = .ok (.iload 4, 2) := by decide +kernel
theorem dX7_chance_200 : decode cX7_chance 200 = .ok (.goto 15, 3) := by decide +kernel
theorem dX7_chance_203 : decode cX7_chance 203 = .ok (.aload_n 0, 1) := by decide +kernel
theorem dX7_chance_204 : decode cX7_chance 204 = .ok (.invokevirtual 332, 3) := by decide +kernel
theorem dX7_chance_207 : decode cX7_chance 207 = .ok (.ifCond .eq 7, 3) := by decide +kernel
theorem dX7_chance_210 : decode cX7_chance 210 = .ok (.iconst 1, 1) := by decide +kernel
theorem dX7_chance_211 : decode cX7_chance 211 = .ok (.goto 4, 3) := by decide +kernel
theorem dX7_chance_214 : decode cX7_chance 214 = .ok (.iconst 0, 1) := by decide +kernel
theorem dX7_chance_215 : decode cX7_chance 215 = .ok (.istore 5, 2) := by decide +kernel
theorem dX7_chance_217 : decode cX7_chance 217 = .ok (.iconst 0, 1) := by decide +kernel
theorem dX7_chance_218 : decode cX7_chance 218 = .ok (.istore 6, 2) := by decide +kernel
theorem dX7_chance_220 : decode cX7_chance 220 = .ok (.iload 6, 2) := by decide +kernel
theorem dX7_chance_222 : decode cX7_chance 222 = .ok (.bipush 79, 2) := by decide +kernel
theorem dX7_chance_224 : decode cX7_chance 224 = .ok (.if_icmp .ge 23, 3) := by decide +kernel
theorem dX7_chance_227 : decode cX7_chance 227 = .ok (.aload_n 0, 1) := by decide +kernel
theorem dX7_chance_228 : decode cX7_chance 228 = .ok (.getfield 51, 3) := by decide +kernel
theorem dX7_chance_231 : decode cX7_chance 231 = .ok (.iload 6, 2) := by decide +kernel
theorem dX7_chance_233 : decode cX7_chance 233 = .ok (.aload_n 0, 1) := by decide +kernel
theorem dX7_chance_234 : decode cX7_chance 234 = .ok (.getfield 84, 3) := by decide +kernel
theorem dX7_chance_237 : decode cX7_chance 237 = .ok (.iload 6, 2) := by decide +kernel
theorem dX7_chance_239 : decode cX7_chance 239 = .ok (.iaload, 1) := by decide +kernel
theorem dX7_chance_240 : decode cX7_chance 240 = .ok (.iastore, 1) := by decide +kernel
theorem dX7_chance_241 : decode cX7_chance 241 = .ok (.iinc 6 1, 3) := by decide +kernel
theorem dX7_chance_244 : decode cX7_chance 244 = .ok (.goto (-24), 3) := by decide +kernel
theorem dX7_chance_247 : decode cX7_chance 247 = .ok (.iload 5, 2) := by decide +kernel
theorem dX7_chance_249 : decode cX7_chance 249 = .ok (.ireturn, 1) := by decide +kernel
theorem dX7_blockedMany_0 : decode cX7_blockedMany 0 = .ok (.iconst 0, 1) := by decide +kernel
theorem dX7_blockedMany_1 : decode cX7_blockedMany 1 = .ok (.istore_n 1, 1) := by decide +kernel
theorem dX7_blockedMany_2 : decode cX7_blockedMany 2 = .ok (.iconst 1, 1) := by decide +kernel
theorem dX7_blockedMany_3 : decode cX7_blockedMany 3 = .ok (.istore_n 2, 1) := by decide +kernel
theorem dX7_blockedMany_4 : decode cX7_blockedMany 4 = .ok (.iload_n 2, 1) := by decide +kernel
theorem dX7_blockedMany_5 : decode cX7_blockedMany 5 = .ok (.aload_n 0, 1) := by decide +kernel
theorem dX7_blockedMany_6 : decode cX7_blockedMany 6 = .ok (.getfield 13, 3) := by decide +kernel
theorem dX7_blockedMany_9 : decode cX7_blockedMany 9 = .ok (.iconst 0, 1) := by decide +kernel
theorem dX7_blockedMany_10 : decode cX7_blockedMany 10 = .ok (.iaload, 1) := by decide +kernel
theorem dX7_blockedMany_11 : decode cX7_blockedMany 11 = .ok (.if_icmp .gt 21, 3) := by decide +kernel
theorem dX7_blockedMany_14 : decode cX7_blockedMany 14 = .ok (.iload_n 1, 1) := by decide +kernel
theorem dX7_blockedMany_15 : decode cX7_blockedMany 15 = .ok (.aload_n 0, 1) := by decide +kernel
theorem dX7_blockedMany_16 : decode cX7_blockedMany 16 = .ok (.getfield 51, 3) := by decide +kernel
theorem dX7_blockedMany_19 : decode cX7_blockedMany 19 = .ok (.bipush 12, 2) := by decide +kernel
theorem dX7_blockedMany_21 : decode cX7_blockedMany 21 = .ok (.iload_n 2, 1) := by decide +kernel
theorem dX7_blockedMany_22 : decode cX7_blockedMany 22 = .ok (.iadd, 1) := by decide +kernel
theorem dX7_blockedMany_23 : decode cX7_blockedMany 23 = .ok (.iaload, 1) := by decide +kernel
theorem dX7_blockedMany_24 : decode cX7_blockedMany 24 = .ok (.iadd, 1) := by decide +kernel
theorem dX7_blockedMany_25 : decode cX7_blockedMany 25 = .ok (.istore_n 1, 1) := by decide +kernel
theorem dX7_blockedMany_26 : decode cX7_blockedMany 26 = .ok (.iinc 2 1, 3) := by decide +kernel
theorem dX7_blockedMany_29 : decode cX7_blockedMany 29 = .ok (.goto (-25), 3) := by decide +kernel
theorem dX7_blockedMany_32 : decode cX7_blockedMany 32 = .ok (.iload_n 1, 1) := by decide +kernel
theorem dX7_blockedMany_33 : decode cX7_blockedMany 33 = .ok (.ireturn, 1) := by decide +kernel
theorem dX7_count_0 : decode cX7_count 0 = .ok (.aload_n 0, 1) := by decide +kernel
theorem dX7_count_1 : decode cX7_count 1 = .ok (.iconst 0, 1) := by decide +kernel
theorem dX7_count_2 : decode cX7_count 2 = .ok (.putfield 96, 3) := by decide +kernel
theorem dX7_count_5 : decode cX7_count 5 = .ok (.iload_n 1, 1) := by decide +kernel
theorem dX7_count_6 : decode cX7_count 6 = .ok (.tableswitch 103 0 8 #[50, 55, 62, 69, 76, 83, 88, 93, 98], 50) := by decide +kernel
theorem dX7_count_56 : decode cX7_count 56 = .ok (.aload_n 0, 1) := by decide +kernel
theorem dX7_count_57 : decode cX7_count 57 = .ok (.invokevirtual 232, 3) := by decide +kernel
theorem dX7_count_60 : decode cX7_count 60 = .ok (.ireturn, 1) := by decide +kernel
theorem dX7_count_61 : decode cX7_count 61 = .ok (.aload_n 0, 1) := by decide +kernel
theorem dX7_count_62 : decode cX7_count 62 = .ok (.getfield 13, 3) := by decide +kernel
theorem dX7_count_65 : decode cX7_count 65 = .ok (.iconst 0, 1) := by decide +kernel
theorem dX7_count_66 : decode cX7_count 66 = .ok (.iaload, 1) := by decide +kernel
theorem dX7_count_67 : decode cX7_count 67 = .ok (.ireturn, 1) := by decide +kernel
theorem dX7_count_68 : decode cX7_count 68 = .ok (.aload_n 0, 1) := by decide +kernel
theorem dX7_count_69 : decode cX7_count 69 = .ok (.getfield 13, 3) := by decide +kernel
theorem dX7_count_72 : decode cX7_count 72 = .ok (.iconst 1, 1) := by decide +kernel
theorem dX7_count_73 : decode cX7_count 73 = .ok (.iaload, 1) := by decide +kernel
theorem dX7_count_74 : decode cX7_count 74 = .ok (.ireturn, 1) := by decide +kernel
theorem dX7_count_75 : decode cX7_count 75 = .ok (.aload_n 0, 1) := by decide +kernel
theorem dX7_count_76 : decode cX7_count 76 = .ok (.getfield 13, 3) := by decide +kernel
theorem dX7_count_79 : decode cX7_count 79 = .ok (.iconst 2, 1) := by decide +kernel
theorem dX7_count_80 : decode cX7_count 80 = .ok (.iaload, 1) := by decide +kernel
theorem dX7_count_81 : decode cX7_count 81 = .ok (.ireturn, 1) := by decide +kernel
theorem dX7_count_82 : decode cX7_count 82 = .ok (.aload_n 0, 1) := by decide +kernel
theorem dX7_count_83 : decode cX7_count 83 = .ok (.getfield 13, 3) := by decide +kernel
theorem dX7_count_86 : decode cX7_count 86 = .ok (.iconst 3, 1) := by decide +kernel
theorem dX7_count_87 : decode cX7_count 87 = .ok (.iaload, 1) := by decide +kernel
theorem dX7_count_88 : decode cX7_count 88 = .ok (.ireturn, 1) := by decide +kernel
theorem dX7_count_89 : decode cX7_count 89 = .ok (.aload_n 0, 1) := by decide +kernel
theorem dX7_count_90 : decode cX7_count 90 = .ok (.invokevirtual 416, 3) := by decide +kernel
theorem dX7_count_93 : decode cX7_count 93 = .ok (.ireturn, 1) := by decide +kernel
theorem dX7_count_94 : decode cX7_count 94 = .ok (.aload_n 0, 1) := by decide +kernel
theorem dX7_count_95 : decode cX7_count 95 = .ok (.invokevirtual 256, 3) := by decide +kernel
theorem dX7_count_98 : decode cX7_count 98 = .ok (.ireturn, 1) := by decide +kernel
theorem dX7_count_99 : decode cX7_count 99 = .ok (.aload_n 0, 1) := by decide +kernel
theorem dX7_count_100 : decode cX7_count 100 = .ok (.getfield 226, 3) := by decide +kernel
theorem dX7_count_103 : decode cX7_count 103 = .ok (.ireturn, 1) := by decide +kernel
theorem dX7_count_104 : decode cX7_count 104 = .ok (.aload_n 0, 1) := by decide +kernel
theorem dX7_count_105 : decode cX7_count 105 = .ok (.getfield 99, 3) := by decide +kernel
theorem dX7_count_108 : decode cX7_count 108 = .ok (.ireturn, 1) := by decide +kernel
theorem dX7_count_109 : decode cX7_count 109 = .ok (.iconst (-1), 1) := by decide +kernel
theorem dX7_count_110 : decode cX7_count 110 = .ok (.ireturn, 1) := by decide +kernel
