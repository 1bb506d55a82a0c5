theorem dX7_isChannel_0 : decode cX7_isChannel 0 = .ok (.iload_n 1, 1) := by decide +kernel
theorem dX7_isChannel_1 : decode cX7_isChannel 1 = .ok (.iconst 1, 1) := by decide +kernel
theorem dX7_isChannel_2 : decode cX7_isChannel 2 = .ok (.if_icmp .lt 17, 3) := by decide +kernel
theorem dX7_isChannel_5 : decode cX7_isChannel 5 = .ok (.iload_n 1, 1) := by decide +kernel
theorem dX7_isChannel_6 : decode cX7_isChannel 6 = .ok (.aload_n 0, 1) := by decide +kernel
theorem dX7_isChannel_7 : decode cX7_isChannel 7 = .ok (.getfield 13, 3) := by decide +kernel
theorem dX7_isChannel_10 : decode cX7_isChannel 10 = .ok (.iconst 0, 1) := by decide +kernel
theorem dX7_isChannel_11 : decode cX7_isChannel 11 = .ok (.iaload, 1) := by decide +kernel
theorem dX7_isChannel_12 : decode cX7_isChannel 12 = .ok (.if_icmp .gt 7, 3) := by decide +kernel
theorem dX7_isChannel_15 : decode cX7_isChannel 15 = .ok (.iconst 1, 1) := by decide +kernel
theorem dX7_isChannel_16 : decode cX7_isChannel 16 = .ok (.goto 4, 3) := by decide +kernel
theorem dX7_isChannel_19 : decode cX7_isChannel 19 = .ok (.iconst 0, 1) := by decide +kernel
theorem dX7_isChannel_20 : decode cX7_isChannel 20 = .ok (.ireturn, 1) := by decide +kernel
theorem dX7_tune_0 : decode cX7_tune 0 = .ok (.aload_n 0, 1) := by decide +kernel
theorem dX7_tune_1 : decode cX7_tune 1 = .ok (.iconst 0, 1) := by decide +kernel
theorem dX7_tune_2 : decode cX7_tune 2 = .ok (.putfield 96, 3) := by decide +kernel
theorem dX7_tune_5 : decode cX7_tune 5 = .ok (.aload_n 0, 1) := by decide +kernel
theorem dX7_tune_6 : decode cX7_tune 6 = .ok (.iload_n 1, 1) := by decide +kernel
theorem dX7_tune_7 : decode cX7_tune 7 = .ok (.invokevirtual 259, 3) := by decide +kernel
theorem dX7_tune_10 : decode cX7_tune 10 = .ok (.ifCond .eq 15, 3) := by decide +kernel
theorem dX7_tune_13 : decode cX7_tune 13 = .ok (.iload_n 2, 1) := by decide +kernel
theorem dX7_tune_14 : decode cX7_tune 14 = .ok (.ifCond .eq 13, 3) := by decide +kernel
theorem dX7_tune_17 : decode cX7_tune 17 = .ok (.aload_n 0, 1) := by decide +kernel
theorem dX7_tune_18 : decode cX7_tune 18 = .ok (.iload_n 2, 1) := by decide +kernel
theorem dX7_tune_19 : decode cX7_tune 19 = .ok (.invokevirtual 262, 3) := by decide +kernel
theorem dX7_tune_22 : decode cX7_tune 22 = .ok (.ifCond .ne 5, 3) := by decide +kernel
theorem dX7_tune_25 : decode cX7_tune 25 = .ok (.iconst (-1), 1) := by decide +kernel
theorem dX7_tune_26 : decode cX7_tune 26 = .ok (.ireturn, 1) := by decide +kernel
theorem dX7_tune_27 : decode cX7_tune 27 = .ok (.aload_n 0, 1) := by decide +kernel
theorem dX7_tune_28 : decode cX7_tune 28 = .ok (.getfield 51, 3) := by decide +kernel
theorem dX7_tune_31 : decode cX7_tune 31 = .ok (.iconst 0, 1) := by decide +kernel
theorem dX7_tune_32 : decode cX7_tune 32 = .ok (.iload_n 1, 1) := by decide +kernel
theorem dX7_tune_33 : decode cX7_tune 33 = .ok (.iadd, 1) := by decide +kernel
theorem dX7_tune_34 : decode cX7_tune 34 = .ok (.iaload, 1) := by decide +kernel
theorem dX7_tune_35 : decode cX7_tune 35 = .ok (.istore_n 3, 1) := by decide +kernel
theorem dX7_tune_36 : decode cX7_tune 36 = .ok (.aload_n 0, 1) := by decide +kernel
theorem dX7_tune_37 : decode cX7_tune 37 = .ok (.invokevirtual 265, 3) := by decide +kernel
theorem dX7_tune_40 : decode cX7_tune 40 = .ok (.aload_n 0, 1) := by decide +kernel
theorem dX7_tune_41 : decode cX7_tune 41 = .ok (.getfield 51, 3) := by decide +kernel
theorem dX7_tune_44 : decode cX7_tune 44 = .ok (.iconst 0, 1) := by decide +kernel
theorem dX7_tune_45 : decode cX7_tune 45 = .ok (.iload_n 1, 1) := by decide +kernel
theorem dX7_tune_46 : decode cX7_tune 46 = .ok (.iadd, 1) := by decide +kernel
theorem dX7_tune_47 : decode cX7_tune 47 = .ok (.iload_n 2, 1) := by decide +kernel
theorem dX7_tune_48 : decode cX7_tune 48 = .ok (.iastore, 1) := by decide +kernel
theorem dX7_tune_49 : decode cX7_tune 49 = .ok (.iload_n 3, 1) := by decide +kernel
theorem dX7_tune_50 : decode cX7_tune 50 = .ok (.ireturn, 1) := by decide +kernel
theorem dX7_block_0 : decode cX7_block 0 = .ok (.aload_n 0, 1) := by decide +kernel
theorem dX7_block_1 : decode cX7_block 1 = .ok (.iconst 0, 1) := by decide +kernel
theorem dX7_block_2 : decode cX7_block 2 = .ok (.putfield 96, 3) := by decide +kernel
theorem dX7_block_5 : decode cX7_block 5 = .ok (.aload_n 0, 1) := by decide +kernel
theorem dX7_block_6 : decode cX7_block 6 = .ok (.iload_n 1, 1) := by decide +kernel
theorem dX7_block_7 : decode cX7_block 7 = .ok (.invokevirtual 262, 3) := by decide +kernel
theorem dX7_block_10 : decode cX7_block 10 = .ok (.ifCond .ne 5, 3) := by decide +kernel
theorem dX7_block_13 : decode cX7_block 13 = .ok (.iconst (-1), 1) := by decide +kernel
theorem dX7_block_14 : decode cX7_block 14 = .ok (.ireturn, 1) := by decide +kernel
theorem dX7_block_15 : decode cX7_block 15 = .ok (.aload_n 0, 1) := by decide +kernel
theorem dX7_block_16 : decode cX7_block 16 = .ok (.invokevirtual 265, 3) := by decide +kernel
theorem dX7_block_19 : decode cX7_block 19 = .ok (.aload_n 0, 1) := by decide +kernel
theorem dX7_block_20 : decode cX7_block 20 = .ok (.getfield 51, 3) := by decide +kernel
theorem dX7_block_23 : decode cX7_block 23 = .ok (.bipush 12, 2) := by decide +kernel
theorem dX7_block_25 : decode cX7_block 25 = .ok (.iload_n 1, 1) := by decide +kernel
theorem dX7_block_26 : decode cX7_block 26 = .ok (.iadd, 1) := by decide +kernel
theorem dX7_block_27 : decode cX7_block 27 = .ok (.iconst 1, 1) := by decide +kernel
theorem dX7_block_28 : decode cX7_block 28 = .ok (.aload_n 0, 1) := by decide +kernel
theorem dX7_block_29 : decode cX7_block 29 = .ok (.getfield 51, 3) := by decide +kernel
theorem dX7_block_32 : decode cX7_block 32 = .ok (.bipush 12, 2) := by decide +kernel
theorem dX7_block_34 : decode cX7_block 34 = .ok (.iload_n 1, 1) := by decide +kernel
theorem dX7_block_35 : decode cX7_block 35 = .ok (.iadd, 1) := by decide +kernel
theorem dX7_block_36 : decode cX7_block 36 = .ok (.iaload, 1) := by decide +kernel
theorem dX7_block_37 : decode cX7_block 37 = .ok (.isub, 1) := by decide +kernel
theorem dX7_block_38 : decode cX7_block 38 = .ok (.iastore, 1) := by decide +kernel
theorem dX7_block_39 : decode cX7_block 39 = .ok (.aload_n 0, 1) := by decide +kernel
theorem dX7_block_40 : decode cX7_block 40 = .ok (.getfield 51, 3) := by decide +kernel
theorem dX7_block_43 : decode cX7_block 43 = .ok (.bipush 12, 2) := by decide +kernel
theorem dX7_block_45 : decode cX7_block 45 = .ok (.iload_n 1, 1) := by decide +kernel
theorem dX7_block_46 : decode cX7_block 46 = .ok (.iadd, 1) := by decide +kernel
theorem dX7_block_47 : decode cX7_block 47 = .ok (.iaload, 1) := by decide +kernel
theorem dX7_block_48 : decode cX7_block 48 = .ok (.ireturn, 1) := by decide +kernel
theorem dX7_power_0 : decode cX7_power 0 = .ok (.aload_n 0, 1) := by decide +kernel
theorem dX7_power_1 : decode cX7_power 1 = .ok (.iconst 0, 1) := by decide +kernel
theorem dX7_power_2 : decode cX7_power 2 = .ok (.putfield 96, 3) := by decide +kernel
theorem dX7_power_5 : decode cX7_power 5 = .ok (.aload_n 0, 1) := by decide +kernel
theorem dX7_power_6 : decode cX7_power 6 = .ok (.iload_n 1, 1) := by decide +kernel
theorem dX7_power_7 : decode cX7_power 7 = .ok (.invokevirtual 259, 3) := by decide +kernel
theorem dX7_power_10 : decode cX7_power 10 = .ok (.ifCond .eq 13, 3) := by decide +kernel
theorem dX7_power_13 : decode cX7_power 13 = .ok (.iload_n 2, 1) := by decide +kernel
theorem dX7_power_14 : decode cX7_power 14 = .ok (.ifCond .lt 9, 3) := by decide +kernel
theorem dX7_power_17 : decode cX7_power 17 = .ok (.iload_n 2, 1) := by decide +kernel
theorem dX7_power_18 : decode cX7_power 18 = .ok (.bipush 30, 2) := by decide +kernel
theorem dX7_power_20 : decode cX7_power 20 = .ok (.if_icmp .le 5, 3) := by decide +kernel
theorem dX7_power_23 : decode cX7_power 23 = .ok (.iconst (-1), 1) := by decide +kernel
theorem dX7_power_24 : decode cX7_power 24 = .ok (.ireturn, 1) := by decide +kernel
theorem dX7_power_25 : decode cX7_power 25 = .ok (.aload_n 0, 1) := by decide +kernel
theorem dX7_power_26 : decode cX7_power 26 = .ok (.getfield 51, 3) := by decide +kernel
theorem dX7_power_29 : decode cX7_power 29 = .ok (.bipush 6, 2) := by decide +kernel
theorem dX7_power_31 : decode cX7_power 31 = .ok (.iload_n 1, 1) := by decide +kernel
theorem dX7_power_32 : decode cX7_power 32 = .ok (.iadd, 1) := by decide +kernel
theorem dX7_power_33 : decode cX7_power 33 = .ok (.iaload, 1) := by decide +kernel
theorem dX7_power_34 : decode cX7_power 34 = .ok (.istore_n 3, 1) := by decide +kernel
theorem dX7_power_35 : decode cX7_power 35 = .ok (.aload_n 0, 1) := by decide +kernel
theorem dX7_power_36 : decode cX7_power 36 = .ok (.invokevirtual 265, 3) := by decide +kernel
theorem dX7_power_39 : decode cX7_power 39 = .ok (.aload_n 0, 1) := by decide +kernel
theorem dX7_power_40 : decode cX7_power 40 = .ok (.getfield 51, 3) := by decide +kernel
theorem dX7_power_43 : decode cX7_power 43 = .ok (.bipush 6, 2) := by decide +kernel
theorem dX7_power_45 : decode cX7_power 45 = .ok (.iload_n 1, 1) := by decide +kernel
theorem dX7_power_46 : decode cX7_power 46 = .ok (.iadd, 1) := by decide +kernel
theorem dX7_power_47 : decode cX7_power 47 = .ok (.iload_n 2, 1) := by decide +kernel
theorem dX7_power_48 : decode cX7_power 48 = .ok (.iastore, 1) := by decide +kernel
theorem dX7_power_49 : decode cX7_power 49 = .ok (.iload_n 3, 1) := by decide +kernel
theorem dX7_power_50 : decode cX7_power 50 = .ok (.ireturn, 1) := by decide +kernel
theorem dX7_slots_0 : decode cX7_slots 0 = .ok (.aload_n 0, 1) := by decide +kernel
theorem dX7_slots_1 : decode cX7_slots 1 = .ok (.iconst 0, 1) := by decide +kernel
theorem dX7_slots_2 : decode cX7_slots 2 = .ok (.putfield 96, 3) := by decide +kernel
theorem dX7_slots_5 : decode cX7_slots 5 = .ok (.aload_n 0, 1) := by decide +kernel
theorem dX7_slots_6 : decode cX7_slots 6 = .ok (.iload_n 1, 1) := by decide +kernel
theorem dX7_slots_7 : decode cX7_slots 7 = .ok (.invokevirtual 259, 3) := by decide +kernel
theorem dX7_slots_10 : decode cX7_slots 10 = .ok (.ifCond .eq 15, 3) := by decide +kernel
theorem dX7_slots_13 : decode cX7_slots 13 = .ok (.iload_n 2, 1) := by decide +kernel
theorem dX7_slots_14 : decode cX7_slots 14 = .ok (.iconst 1, 1) := by decide +kernel
theorem dX7_slots_15 : decode cX7_slots 15 = .ok (.if_icmp .lt 10, 3) := by decide +kernel
theorem dX7_slots_18 : decode cX7_slots 18 = .ok (.iload_n 2, 1) := by decide +kernel
theorem dX7_slots_19 : decode cX7_slots 19 = .ok (.sipush 255, 3) := by decide +kernel
theorem dX7_slots_22 : decode cX7_slots 22 = .ok (.if_icmp .le 5, 3) := by decide +kernel
theorem dX7_slots_25 : decode cX7_slots 25 = .ok (.iconst (-1), 1) := by decide +kernel
theorem dX7_slots_26 : decode cX7_slots 26 = .ok (.ireturn, 1) := by decide +kernel
theorem dX7_slots_27 : decode cX7_slots 27 = .ok (.aload_n 0, 1) := by decide +kernel
theorem dX7_slots_28 : decode cX7_slots 28 = .ok (.getfield 51, 3) := by decide +kernel
theorem dX7_slots_31 : decode cX7_slots 31 = .ok (.bipush 73, 2) := by decide +kernel
theorem dX7_slots_33 : decode cX7_slots 33 = .ok (.iload_n 1, 1) := by decide +kernel
theorem dX7_slots_34 : decode cX7_slots 34 = .ok (.iadd, 1) := by decide +kernel
theorem dX7_slots_35 : decode cX7_slots 35 = .ok (.iaload, 1) := by decide +kernel
theorem dX7_slots_36 : decode cX7_slots 36 = .ok (.istore_n 3, 1) := by decide +kernel
theorem dX7_slots_37 : decode cX7_slots 37 = .ok (.aload_n 0, 1) := by decide +kernel
theorem dX7_slots_38 : decode cX7_slots 38 = .ok (.invokevirtual 265, 3) := by decide +kernel
theorem dX7_slots_41 : decode cX7_slots 41 = .ok (.aload_n 0, 1) := by decide +kernel
theorem dX7_slots_42 : decode cX7_slots 42 = .ok (.getfield 51, 3) := by decide +kernel
theorem dX7_slots_45 : decode cX7_slots 45 = .ok (.bipush 73, 2) := by decide +kernel
theorem dX7_slots_47 : decode cX7_slots 47 = .ok (.iload_n 1, 1) := by decide +kernel
theorem dX7_slots_48 : decode cX7_slots 48 = .ok (.iadd, 1) := by decide +kernel
theorem dX7_slots_49 : decode cX7_slots 49 = .ok (.iload_n 2, 1) := by decide +kernel
theorem dX7_slots_50 : decode cX7_slots 50 = .ok (.iastore, 1) := by decide +kernel
theorem dX7_slots_51 : decode cX7_slots 51 = .ok (.iload_n 3, 1) := by decide +kernel
theorem dX7_slots_52 : decode cX7_slots 52 = .ok (.ireturn, 1) := by decide +kernel
theorem dX7_bitOf_0 : decode cX7_bitOf 0 = .ok (.iload_n 0, 1) := by decide +kernel
theorem dX7_bitOf_1 : decode cX7_bitOf 1 = .ok (.iconst 2, 1) := by decide +kernel
theorem dX7_bitOf_2 : decode cX7_bitOf 2 = .ok (.if_icmp .ge 7, 3) := by decide +kernel
theorem dX7_bitOf_5 : decode cX7_bitOf 5 = .ok (.iconst 1, 1) := by decide +kernel
theorem dX7_bitOf_6 : decode cX7_bitOf 6 = .ok (.goto 13, 3) := by decide +kernel
theorem dX7_bitOf_9 : decode cX7_bitOf 9 = .ok (.iload_n 0, 1) := by decide +kernel
theorem dX7_bitOf_10 : decode cX7_bitOf 10 = .ok (.iconst 4, 1) := by decide +kernel
theorem dX7_bitOf_11 : decode cX7_bitOf 11 = .ok (.if_icmp .ge 7, 3) := by decide +kernel
theorem dX7_bitOf_14 : decode cX7_bitOf 14 = .ok (.iconst 2, 1) := by decide +kernel
theorem dX7_bitOf_15 : decode cX7_bitOf 15 = .ok (.goto 4, 3) := by decide +kernel
theorem dX7_bitOf_18 : decode cX7_bitOf 18 = .ok (.iconst 4, 1) := by decide +kernel
theorem dX7_bitOf_19 : decode cX7_bitOf 19 = .ok (.ireturn, 1) := by decide +kernel
theorem dX7_lossOf_0 : decode cX7_lossOf 0 = .ok (.aload_n 0, 1) := by decide +kernel
theorem dX7_lossOf_1 : decode cX7_lossOf 1 = .ok (.getfield 13, 3) := by decide +kernel
theorem dX7_lossOf_4 : decode cX7_lossOf 4 = .ok (.iconst 4, 1) := by decide +kernel
theorem dX7_lossOf_5 : decode cX7_lossOf 5 = .ok (.iload_n 1, 1) := by decide +kernel
theorem dX7_lossOf_6 : decode cX7_lossOf 6 = .ok (.iconst 2, 1) := by decide +kernel
theorem dX7_lossOf_7 : decode cX7_lossOf 7 = .ok (.idiv, 1) := by decide +kernel
theorem dX7_lossOf_8 : decode cX7_lossOf 8 = .ok (.iadd, 1) := by decide +kernel
theorem dX7_lossOf_9 : decode cX7_lossOf 9 = .ok (.iaload, 1) := by decide +kernel
theorem dX7_lossOf_10 : decode cX7_lossOf 10 = .ok (.ireturn, 1) := by decide +kernel
theorem dX7_isThere_0 : decode cX7_isThere 0 = .ok (.aload_n 0, 1) := by decide +kernel
theorem dX7_isThere_1 : decode cX7_isThere 1 = .ok (.getfield 23, 3) := by decide +kernel
theorem dX7_isThere_4 : decode cX7_isThere 4 = .ok (.iload_n 1, 1) := by decide +kernel
theorem dX7_isThere_5 : decode cX7_isThere 5 = .ok (.iaload, 1) := by decide +kernel
theorem dX7_isThere_6 : decode cX7_isThere 6 = .ok (.iload_n 2, 1) := by decide +kernel
theorem dX7_isThere_7 : decode cX7_isThere 7 = .ok (.if_icmp .ne 18, 3) := by decide +kernel
theorem dX7_isThere_10 : decode cX7_isThere 10 = .ok (.aload_n 0, 1) := by decide +kernel
theorem dX7_isThere_11 : decode cX7_isThere 11 = .ok (.getfield 51, 3) := by decide +kernel
theorem dX7_isThere_14 : decode cX7_isThere 14 = .ok (.iconst 0, 1) := by decide +kernel
theorem dX7_isThere_15 : decode cX7_isThere 15 = .ok (.iload_n 1, 1) := by decide +kernel
theorem dX7_isThere_16 : decode cX7_isThere 16 = .ok (.iadd, 1) := by decide +kernel
theorem dX7_isThere_17 : decode cX7_isThere 17 = .ok (.iaload, 1) := by decide +kernel
theorem dX7_isThere_18 : decode cX7_isThere 18 = .ok (.ifCond .le 7, 3) := by decide +kernel
theorem dX7_isThere_21 : decode cX7_isThere 21 = .ok (.iconst 1, 1) := by decide +kernel
theorem dX7_isThere_22 : decode cX7_isThere 22 = .ok (.goto 4, 3) := by decide +kernel
theorem dX7_isThere_25 : decode cX7_isThere 25 = .ok (.iconst 0, 1) := by decide +kernel
theorem dX7_isThere_26 : decode cX7_isThere 26 = .ok (.ireturn, 1) := by decide +kernel
theorem dX7_timesA_0 : decode cX7_timesA 0 = .ok (.iload_n 0, 1) := by decide +kernel
theorem dX7_timesA_1 : decode cX7_timesA 1 = .ok (.iconst 2, 1) := by decide +kernel
theorem dX7_timesA_2 : decode cX7_timesA 2 = .ok (.if_icmp .eq 8, 3) := by decide +kernel
theorem dX7_timesA_5 : decode cX7_timesA 5 = .ok (.iload_n 0, 1) := by decide +kernel
theorem dX7_timesA_6 : decode cX7_timesA 6 = .ok (.iconst 5, 1) := by decide +kernel
theorem dX7_timesA_7 : decode cX7_timesA 7 = .ok (.if_icmp .ne 7, 3) := by decide +kernel
theorem dX7_timesA_10 : decode cX7_timesA 10 = .ok (.iconst 2, 1) := by decide +kernel
theorem dX7_timesA_11 : decode cX7_timesA 11 = .ok (.goto 13, 3) := by decide +kernel
theorem dX7_timesA_14 : decode cX7_timesA 14 = .ok (.iload_n 0, 1) := by decide +kernel
theorem dX7_timesA_15 : decode cX7_timesA 15 = .ok (.iconst 4, 1) := by decide +kernel
theorem dX7_timesA_16 : decode cX7_timesA 16 = .ok (.if_icmp .ne 7, 3) := by decide +kernel
theorem dX7_timesA_19 : decode cX7_timesA 19 = .ok (.iconst 3, 1) := by decide +kernel
theorem dX7_timesA_20 : decode cX7_timesA 20 = .ok (.goto 4, 3) := by decide +kernel
theorem dX7_timesA_23 : decode cX7_timesA 23 = .ok (.iconst 1, 1) := by decide +kernel
theorem dX7_timesA_24 : decode cX7_timesA 24 = .ok (.ireturn, 1) := by decide +kernel
theorem dX7_timesB_0 : decode cX7_timesB 0 = .ok (.iload_n 0, 1) := by decide +kernel
theorem dX7_timesB_1 : decode cX7_timesB 1 = .ok (.ifCond .eq 13, 3) := by decide +kernel
theorem dX7_timesB_4 : decode cX7_timesB 4 = .ok (.iload_n 0, 1) := by decide +kernel
theorem dX7_timesB_5 : decode cX7_timesB 5 = .ok (.iconst 3, 1) := by decide +kernel
theorem dX7_timesB_6 : decode cX7_timesB 6 = .ok (.if_icmp .eq 8, 3) := by decide +kernel
theorem dX7_timesB_9 : decode cX7_timesB 9 = .ok (.iload_n 0, 1) := by decide +kernel
theorem dX7_timesB_10 : decode cX7_timesB 10 = .ok (.iconst 5, 1) := by decide +kernel
theorem dX7_timesB_11 : decode cX7_timesB 11 = .ok (.if_icmp .ne 7, 3) := by decide +kernel
theorem dX7_timesB_14 : decode cX7_timesB 14 = .ok (.iconst 1, 1) := by decide +kernel
theorem dX7_timesB_15 : decode cX7_timesB 15 = .ok (.goto 14, 3) := by decide +kernel
theorem dX7_timesB_18 : decode cX7_timesB 18 = .ok (.iload_n 0, 1) := by decide +kernel
theorem dX7_timesB_19 : decode cX7_timesB 19 = .ok (.iconst 4, 1) := by decide +kernel
theorem dX7_timesB_20 : decode cX7_timesB 20 = .ok (.if_icmp .ne 8, 3) := by decide +kernel
theorem dX7_timesB_23 : decode cX7_timesB 23 = .ok (.bipush (-2), 2) := by decide +kernel
theorem dX7_timesB_25 : decode cX7_timesB 25 = .ok (.goto 4, 3) := by decide +kernel
theorem dX7_timesB_28 : decode cX7_timesB 28 = .ok (.iconst (-1), 1) := by decide +kernel
theorem dX7_timesB_29 : decode cX7_timesB 29 = .ok (.ireturn, 1) := by decide +kernel
theorem dX7_timesC_0 : decode cX7_timesC 0 = .ok (.iload_n 0, 1) := by decide +kernel
theorem dX7_timesC_1 : decode cX7_timesC 1 = .ok (.iconst 3, 1) := by decide +kernel
theorem dX7_timesC_2 : decode cX7_timesC 2 = .ok (.if_icmp .ne 7, 3) := by decide +kernel
theorem dX7_timesC_5 : decode cX7_timesC 5 = .ok (.iconst (-1), 1) := by decide +kernel
theorem dX7_timesC_6 : decode cX7_timesC 6 = .ok (.goto 14, 3) := by decide +kernel
theorem dX7_timesC_9 : decode cX7_timesC 9 = .ok (.iload_n 0, 1) := by decide +kernel
theorem dX7_timesC_10 : decode cX7_timesC 10 = .ok (.iconst 5, 1) := by decide +kernel
theorem dX7_timesC_11 : decode cX7_timesC 11 = .ok (.if_icmp .ne 8, 3) := by decide +kernel
theorem dX7_timesC_14 : decode cX7_timesC 14 = .ok (.bipush (-2), 2) := by decide +kernel
theorem dX7_timesC_16 : decode cX7_timesC 16 = .ok (.goto 4, 3) := by decide +kernel
theorem dX7_timesC_19 : decode cX7_timesC 19 = .ok (.iconst 0, 1) := by decide +kernel
theorem dX7_timesC_20 : decode cX7_timesC 20 = .ok (.ireturn, 1) := by decide +kernel
theorem dX7_without_0 : decode cX7_without 0 = .ok (.iload_n 0, 1) := by decide +kernel
theorem dX7_without_1 : decode cX7_without 1 = .ok (.ifCond .ge 8, 3) := by decide +kernel
theorem dX7_without_4 : decode cX7_without 4 = .ok (.iload_n 0, 1) := by decide +kernel
theorem dX7_without_5 : decode cX7_without 5 = .ok (.ineg, 1) := by decide +kernel
theorem dX7_without_6 : decode cX7_without 6 = .ok (.goto 4, 3) := by decide +kernel
theorem dX7_without_9 : decode cX7_without 9 = .ok (.iload_n 0, 1) := by decide +kernel
theorem dX7_without_10 : decode cX7_without 10 = .ok (.ireturn, 1) := by decide +kernel
theorem dX7_adds_0 : decode cX7_adds 0 = .ok (.iload_n 1, 1) := by decide +kernel
theorem dX7_adds_1 : decode cX7_adds 1 = .ok (.invokestatic 268, 3) := by decide +kernel
theorem dX7_adds_4 : decode cX7_adds 4 = .ok (.aload_n 0, 1) := by decide +kernel
theorem dX7_adds_5 : decode cX7_adds 5 = .ok (.getfield 51, 3) := by decide +kernel
theorem dX7_adds_8 : decode cX7_adds 8 = .ok (.iconst 0, 1) := by decide +kernel
theorem dX7_adds_9 : decode cX7_adds 9 = .ok (.iload_n 2, 1) := by decide +kernel
theorem dX7_adds_10 : decode cX7_adds 10 = .ok (.iadd, 1) := by decide +kernel
theorem dX7_adds_11 : decode cX7_adds 11 = .ok (.iaload, 1) := by decide +kernel
theorem dX7_adds_12 : decode cX7_adds 12 = .ok (.imul, 1) := by decide +kernel
theorem dX7_adds_13 : decode cX7_adds 13 = .ok (.iload_n 1, 1) := by decide +kernel
theorem dX7_adds_14 : decode cX7_adds 14 = .ok (.invokestatic 271, 3) := by decide +kernel
theorem dX7_adds_17 : decode cX7_adds 17 = .ok (.aload_n 0, 1) := by decide +kernel
theorem dX7_adds_18 : decode cX7_adds 18 = .ok (.getfield 51, 3) := by decide +kernel
theorem dX7_adds_21 : decode cX7_adds 21 = .ok (.iconst 0, 1) := by decide +kernel
theorem dX7_adds_22 : decode cX7_adds 22 = .ok (.iload_n 3, 1) := by decide +kernel
theorem dX7_adds_23 : decode cX7_adds 23 = .ok (.iadd, 1) := by decide +kernel
theorem dX7_adds_24 : decode cX7_adds 24 = .ok (.iaload, 1) := by decide +kernel
theorem dX7_adds_25 : decode cX7_adds 25 = .ok (.imul, 1) := by decide +kernel
theorem dX7_adds_26 : decode cX7_adds 26 = .ok (.iadd, 1) := by decide +kernel
theorem dX7_adds_27 : decode cX7_adds 27 = .ok (.istore 5, 2) := by decide +kernel
theorem dX7_adds_29 : decode cX7_adds 29 = .ok (.iload_n 1, 1) := by decide +kernel
theorem dX7_adds_30 : decode cX7_adds 30 = .ok (.invokestatic 268, 3) := by decide +kernel
theorem dX7_adds_33 : decode cX7_adds 33 = .ok (.aload_n 0, 1) := by decide +kernel
theorem dX7_adds_34 : decode cX7_adds 34 = .ok (.getfield 51, 3) := by decide +kernel
theorem dX7_adds_37 : decode cX7_adds 37 = .ok (.bipush 6, 2) := by decide +kernel
theorem dX7_adds_39 : decode cX7_adds 39 = .ok (.iload_n 2, 1) := by decide +kernel
theorem dX7_adds_40 : decode cX7_adds 40 = .ok (.iadd, 1) := by decide +kernel
theorem dX7_adds_41 : decode cX7_adds 41 = .ok (.iaload, 1) := by decide +kernel
theorem dX7_adds_42 : decode cX7_adds 42 = .ok (.imul, 1) := by decide +kernel
theorem dX7_adds_43 : decode cX7_adds 43 = .ok (.iload_n 1, 1) := by decide +kernel
theorem dX7_adds_44 : decode cX7_adds 44 = .ok (.invokestatic 271, 3) := by decide +kernel
theorem dX7_adds_47 : decode cX7_adds 47 = .ok (.invokestatic 274, 3) := by decide +kernel
theorem dX7_adds_50 : decode cX7_adds 50 = .ok (.aload_n 0, 1) := by decide +kernel
theorem dX7_adds_51 : decode cX7_adds 51 = .ok (.getfield 51, 3) := by decide +kernel
theorem dX7_adds_54 : decode cX7_adds 54 = .ok (.bipush 6, 2) := by decide +kernel
theorem dX7_adds_56 : decode cX7_adds 56 = .ok (.iload_n 3, 1) := by decide +kernel
theorem dX7_adds_57 : decode cX7_adds 57 = .ok (.iadd, 1) := by decide +kernel
theorem dX7_adds_58 : decode cX7_adds 58 = .ok (.iaload, 1) := by decide +kernel
theorem dX7_adds_59 : decode cX7_adds 59 = .ok (.imul, 1) := by decide +kernel
theorem dX7_adds_60 : decode cX7_adds 60 = .ok (.iadd, 1) := by decide +kernel
theorem dX7_adds_61 : decode cX7_adds 61 = .ok (.istore 6, 2) := by decide +kernel
theorem dX7_adds_63 : decode cX7_adds 63 = .ok (.iload 4, 2) := by decide +kernel
theorem dX7_adds_65 : decode cX7_adds 65 = .ok (.bipush (-2), 2) := by decide +kernel
theorem dX7_adds_67 : decode cX7_adds 67 = .ok (.if_icmp .eq 45, 3) := by decide +kernel
theorem dX7_adds_70 : decode cX7_adds 70 = .ok (.iload 5, 2) := by decide +kernel
theorem dX7_adds_72 : decode cX7_adds 72 = .ok (.iload_n 1, 1) := by decide +kernel
theorem dX7_adds_73 : decode cX7_adds 73 = .ok (.invokestatic 277, 3) := by decide +kernel
theorem dX7_adds_76 : decode cX7_adds 76 = .ok (.aload_n 0, 1) := by decide +kernel
theorem dX7_adds_77 : decode cX7_adds 77 = .ok (.getfield 51, 3) := by decide +kernel
theorem dX7_adds_80 : decode cX7_adds 80 = .ok (.iconst 0, 1) := by decide +kernel
theorem dX7_adds_81 : decode cX7_adds 81 = .ok (.iload 4, 2) := by decide +kernel
theorem dX7_adds_83 : decode cX7_adds 83 = .ok (.iadd, 1) := by decide +kernel
theorem dX7_adds_84 : decode cX7_adds 84 = .ok (.iaload, 1) := by decide +kernel
theorem dX7_adds_85 : decode cX7_adds 85 = .ok (.imul, 1) := by decide +kernel
theorem dX7_adds_86 : decode cX7_adds 86 = .ok (.iadd, 1) := by decide +kernel
theorem dX7_adds_87 : decode cX7_adds 87 = .ok (.istore 5, 2) := by decide +kernel
theorem dX7_adds_89 : decode cX7_adds 89 = .ok (.iload 6, 2) := by decide +kernel
theorem dX7_adds_91 : decode cX7_adds 91 = .ok (.iload_n 1, 1) := by decide +kernel
theorem dX7_adds_92 : decode cX7_adds 92 = .ok (.invokestatic 277, 3) := by decide +kernel
theorem dX7_adds_95 : decode cX7_adds 95 = .ok (.invokestatic 274, 3) := by decide +kernel
theorem dX7_adds_98 : decode cX7_adds 98 = .ok (.aload_n 0, 1) := by decide +kernel
theorem dX7_adds_99 : decode cX7_adds 99 = .ok (.getfield 51, 3) := by decide +kernel
theorem dX7_adds_102 : decode cX7_adds 102 = .ok (.bipush 6, 2) := by decide +kernel
theorem dX7_adds_104 : decode cX7_adds 104 = .ok (.iload 4, 2) := by decide +kernel
theorem dX7_adds_106 : decode cX7_adds 106 = .ok (.iadd, 1) := by decide +kernel
theorem dX7_adds_107 : decode cX7_adds 107 = .ok (.iaload, 1) := by decide +kernel
theorem dX7_adds_108 : decode cX7_adds 108 = .ok (.imul, 1) := by decide +kernel
theorem dX7_adds_109 : decode cX7_adds 109 = .ok (.iadd, 1) := by decide +kernel
theorem dX7_adds_110 : decode cX7_adds 110 = .ok (.istore 6, 2) := by decide +kernel
theorem dX7_adds_112 : decode cX7_adds 112 = .ok (.aload_n 0, 1) := by decide +kernel
theorem dX7_adds_113 : decode cX7_adds 113 = .ok (.getfield 51, 3) := by decide +kernel
theorem dX7_adds_116 : decode cX7_adds 116 = .ok (.bipush 73, 2) := by decide +kernel
theorem dX7_adds_118 : decode cX7_adds 118 = .ok (.iload_n 2, 1) := by decide +kernel
theorem dX7_adds_119 : decode cX7_adds 119 = .ok (.iadd, 1) := by decide +kernel
theorem dX7_adds_120 : decode cX7_adds 120 = .ok (.iaload, 1) := by decide +kernel
theorem dX7_adds_121 : decode cX7_adds 121 = .ok (.aload_n 0, 1) := by decide +kernel
theorem dX7_adds_122 : decode cX7_adds 122 = .ok (.getfield 51, 3) := by decide +kernel
theorem dX7_adds_125 : decode cX7_adds 125 = .ok (.bipush 73, 2) := by decide +kernel
theorem dX7_adds_127 : decode cX7_adds 127 = .ok (.iload_n 3, 1) := by decide +kernel
theorem dX7_adds_128 : decode cX7_adds 128 = .ok (.iadd, 1) := by decide +kernel
theorem dX7_adds_129 : decode cX7_adds 129 = .ok (.iaload, 1) := by decide +kernel
theorem dX7_adds_130 : decode cX7_adds 130 = .ok (.iand, 1) := by decide +kernel
theorem dX7_adds_131 : decode cX7_adds 131 = .ok (.iload 4, 2) := by decide +kernel
theorem dX7_adds_133 : decode cX7_adds 133 = .ok (.bipush (-2), 2) := by decide +kernel
theorem dX7_adds_135 : decode cX7_adds 135 = .ok (.if_icmp .ne 9, 3) := by decide +kernel
theorem dX7_adds_138 : decode cX7_adds 138 = .ok (.sipush 255, 3) := by decide +kernel
theorem dX7_adds_141 : decode cX7_adds 141 = .ok (.goto 13, 3) := by decide +kernel
theorem dX7_adds_144 : decode cX7_adds 144 = .ok (.aload_n 0, 1) := by decide +kernel
theorem dX7_adds_145 : decode cX7_adds 145 = .ok (.getfield 51, 3) := by decide +kernel
theorem dX7_adds_148 : decode cX7_adds 148 = .ok (.bipush 73, 2) := by decide +kernel
theorem dX7_adds_150 : decode cX7_adds 150 = .ok (.iload 4, 2) := by decide +kernel
theorem dX7_adds_152 : decode cX7_adds 152 = .ok (.iadd, 1) := by decide +kernel
theorem dX7_adds_153 : decode cX7_adds 153 = .ok (.iaload, 1) := by decide +kernel
theorem dX7_adds_154 : decode cX7_adds 154 = .ok (.iand, 1) := by decide +kernel
theorem dX7_adds_155 : decode cX7_adds 155 = .ok (.istore 7, 2) := by decide +kernel
theorem dX7_adds_157 : decode cX7_adds 157 = .ok (.iload 5, 2) := by decide +kernel
theorem dX7_adds_159 : decode cX7_adds 159 = .ok (.iconst 1, 1) := by decide +kernel
theorem dX7_adds_160 : decode cX7_adds 160 = .ok (.if_icmp .lt 17, 3) := by decide +kernel
theorem dX7_adds_163 : decode cX7_adds 163 = .ok (.iload 5, 2) := by decide +kernel
theorem dX7_adds_165 : decode cX7_adds 165 = .ok (.aload_n 0, 1) := by decide +kernel
theorem dX7_adds_166 : decode cX7_adds 166 = .ok (.getfield 238, 3) := by decide +kernel
theorem dX7_adds_169 : decode cX7_adds 169 = .ok (.if_icmp .gt 8, 3) := by decide +kernel
theorem dX7_adds_172 : decode cX7_adds 172 = .ok (.iload 7, 2) := by decide +kernel
theorem dX7_adds_174 : decode cX7_adds 174 = .ok (.ifCond .ne 4, 3) := by decide +kernel
theorem dX7_adds_177 : decode cX7_adds 177 = .ok (.return_, 1) := by decide +kernel
theorem dX7_adds_178 : decode cX7_adds 178 = .ok (.aload_n 0, 1) := by decide +kernel
theorem dX7_adds_179 : decode cX7_adds 179 = .ok (.getfield 78, 3) := by decide +kernel
theorem dX7_adds_182 : decode cX7_adds 182 = .ok (.aload_n 0, 1) := by decide +kernel
theorem dX7_adds_183 : decode cX7_adds 183 = .ok (.getfield 280, 3) := by decide +kernel
theorem dX7_adds_186 : decode cX7_adds 186 = .ok (.iload 7, 2) := by decide +kernel
theorem dX7_adds_188 : decode cX7_adds 188 = .ok (.iastore, 1) := by decide +kernel
theorem dX7_adds_189 : decode cX7_adds 189 = .ok (.aload_n 0, 1) := by decide +kernel
theorem dX7_adds_190 : decode cX7_adds 190 = .ok (.getfield 60, 3) := by decide +kernel
theorem dX7_adds_193 : decode cX7_adds 193 = .ok (.aload_n 0, 1) := by decide +kernel
theorem dX7_adds_194 : decode cX7_adds 194 = .ok (.getfield 280, 3) := by decide +kernel
theorem dX7_adds_197 : decode cX7_adds 197 = .ok (.iload_n 1, 1) := by decide +kernel
theorem dX7_adds_198 : decode cX7_adds 198 = .ok (.iastore, 1) := by decide +kernel
theorem dX7_adds_199 : decode cX7_adds 199 = .ok (.aload_n 0, 1) := by decide +kernel
theorem dX7_adds_200 : decode cX7_adds 200 = .ok (.getfield 63, 3) := by decide +kernel
theorem dX7_adds_203 : decode cX7_adds 203 = .ok (.aload_n 0, 1) := by decide +kernel
theorem dX7_adds_204 : decode cX7_adds 204 = .ok (.getfield 280, 3) := by decide +kernel
theorem dX7_adds_207 : decode cX7_adds 207 = .ok (.iload_n 2, 1) := by decide +kernel
theorem dX7_adds_208 : decode cX7_adds 208 = .ok (.iastore, 1) := by decide +kernel
theorem dX7_adds_209 : decode cX7_adds 209 = .ok (.aload_n 0, 1) := by decide +kernel
theorem dX7_adds_210 : decode cX7_adds 210 = .ok (.getfield 66, 3) := by decide +kernel
theorem dX7_adds_213 : decode cX7_adds 213 = .ok (.aload_n 0, 1) := by decide +kernel
theorem dX7_adds_214 : decode cX7_adds 214 = .ok (.getfield 280, 3) := by decide +kernel
theorem dX7_adds_217 : decode cX7_adds 217 = .ok (.iload_n 3, 1) := by decide +kernel
theorem dX7_adds_218 : decode cX7_adds 218 = .ok (.iastore, 1) := by decide +kernel
theorem dX7_adds_219 : decode cX7_adds 219 = .ok (.aload_n 0, 1) := by decide +kernel
theorem dX7_adds_220 : decode cX7_adds 220 = .ok (.getfield 69, 3) := by decide +kernel
theorem dX7_adds_223 : decode cX7_adds 223 = .ok (.aload_n 0, 1) := by decide +kernel
theorem dX7_adds_224 : decode cX7_adds 224 = .ok (.getfield 280, 3) := by decide +kernel
theorem dX7_adds_227 : decode cX7_adds 227 = .ok (.iload 4, 2) := by decide +kernel
theorem dX7_adds_229 : decode cX7_adds 229 = .ok (.iastore, 1) := by decide +kernel
theorem dX7_adds_230 : decode cX7_adds 230 = .ok (.aload_n 0, 1) := by decide +kernel
theorem dX7_adds_231 : decode cX7_adds 231 = .ok (.getfield 72, 3) := by decide +kernel
theorem dX7_adds_234 : decode cX7_adds 234 = .ok (.aload_n 0, 1) := by decide +kernel
theorem dX7_adds_235 : decode cX7_adds 235 = .ok (.getfield 280, 3) := by decide +kernel
theorem dX7_adds_238 : decode cX7_adds 238 = .ok (.iload 5, 2) := by decide +kernel
theorem dX7_adds_240 : decode cX7_adds 240 = .ok (.iastore, 1) := by decide +kernel
theorem dX7_adds_241 : decode cX7_adds 241 = .ok (.aload_n 0, 1) := by decide +kernel
theorem dX7_adds_242 : decode cX7_adds 242 = .ok (.getfield 75, 3) := by decide +kernel
theorem dX7_adds_245 : decode cX7_adds 245 = .ok (.aload_n 0, 1) := by decide +kernel
theorem dX7_adds_246 : decode cX7_adds 246 = .ok (.getfield 280, 3) := by decide +kernel
theorem dX7_adds_249 : decode cX7_adds 249 = .ok (.iload 6, 2) := by decide +kernel
theorem dX7_adds_251 : decode cX7_adds 251 = .ok (.aload_n 0, 1) := by decide +kernel
theorem dX7_adds_252 : decode cX7_adds 252 = .ok (.iload_n 1, 1) := by decide +kernel
theorem dX7_adds_253 : decode cX7_adds 253 = .ok (.invokevirtual 283, 3) := by decide +kernel
theorem dX7_adds_256 : decode cX7_adds 256 = .ok (.isub, 1) := by decide +kernel
theorem dX7_adds_257 : decode cX7_adds 257 = .ok (.iastore, 1) := by decide +kernel
theorem dX7_adds_258 : decode cX7_adds 258 = .ok (.aload_n 0, 1) := by decide +kernel
theorem dX7_adds_259 : decode cX7_adds 259 = .ok (.dup, 1) := by decide +kernel
theorem dX7_adds_260 : decode cX7_adds 260 = .ok (.getfield 280, 3) := by decide +kernel
theorem dX7_adds_263 : decode cX7_adds 263 = .ok (.iconst 1, 1) := by decide +kernel
theorem dX7_adds_264 : decode cX7_adds 264 = .ok (.iadd, 1) := by decide +kernel
theorem dX7_adds_265 : decode cX7_adds 265 = .ok (.putfield 280, 3) := by decide +kernel
theorem dX7_adds_268 : decode cX7_adds 268 = .ok (.return_, 1) := by decide +kernel
theorem dX7_laysProducts_0 : decode cX7_laysProducts 0 = .ok (.aload_n 0, 1) := by decide +kernel
theorem dX7_laysProducts_1 : decode cX7_laysProducts 1 = .ok (.iconst 0, 1) := by decide +kernel
theorem dX7_laysProducts_2 : decode cX7_laysProducts 2 = .ok (.putfield 280, 3) := by decide +kernel
theorem dX7_laysProducts_5 : decode cX7_laysProducts 5 = .ok (.iconst 0, 1) := by decide +kernel
theorem dX7_laysProducts_6 : decode cX7_laysProducts 6 = .ok (.istore_n 1, 1) := by decide +kernel
theorem dX7_laysProducts_7 : decode cX7_laysProducts 7 = .ok (.iload_n 1, 1) := by decide +kernel
theorem dX7_laysProducts_8 : decode cX7_laysProducts 8 = .ok (.iconst 3, 1) := by decide +kernel
theorem dX7_laysProducts_9 : decode cX7_laysProducts 9 = .ok (.if_icmp .ge 41, 3) := by decide +kernel
theorem dX7_laysProducts_12 : decode cX7_laysProducts 12 = .ok (.iconst 0, 1) := by decide +kernel
theorem dX7_laysProducts_13 : decode cX7_laysProducts 13 = .ok (.istore_n 2, 1) := by decide +kernel
theorem dX7_laysProducts_14 : decode cX7_laysProducts 14 = .ok (.iload_n 2, 1) := by decide +kernel
theorem dX7_laysProducts_15 : decode cX7_laysProducts 15 = .ok (.bipush 6, 2) := by decide +kernel
theorem dX7_laysProducts_17 : decode cX7_laysProducts 17 = .ok (.if_icmp .ge 27, 3) := by decide +kernel
theorem dX7_laysProducts_20 : decode cX7_laysProducts 20 = .ok (.aload_n 0, 1) := by decide +kernel
theorem dX7_laysProducts_21 : decode cX7_laysProducts 21 = .ok (.getfield 247, 3) := by decide +kernel
theorem dX7_laysProducts_24 : decode cX7_laysProducts 24 = .ok (.iload_n 2, 1) := by decide +kernel
theorem dX7_laysProducts_25 : decode cX7_laysProducts 25 = .ok (.invokestatic 286, 3) := by decide +kernel
theorem dX7_laysProducts_28 : decode cX7_laysProducts 28 = .ok (.iand, 1) := by decide +kernel
theorem dX7_laysProducts_29 : decode cX7_laysProducts 29 = .ok (.ifCond .eq 9, 3) := by decide +kernel
theorem dX7_laysProducts_32 : decode cX7_laysProducts 32 = .ok (.aload_n 0, 1) := by decide +kernel
theorem dX7_laysProducts_33 : decode cX7_laysProducts 33 = .ok (.iload_n 1, 1) := by decide +kernel
theorem dX7_laysProducts_34 : decode cX7_laysProducts 34 = .ok (.iload_n 2, 1) := by decide +kernel
theorem dX7_laysProducts_35 : decode cX7_laysProducts 35 = .ok (.invokevirtual 289, 3) := by decide +kernel
theorem dX7_laysProducts_38 : decode cX7_laysProducts 38 = .ok (.iinc 2 1, 3) := by decide +kernel
theorem dX7_laysProducts_41 : decode cX7_laysProducts 41 = .ok (.goto (-27), 3) := by decide +kernel
theorem dX7_laysProducts_44 : decode cX7_laysProducts 44 = .ok (.iinc 1 1, 3) := by decide +kernel
theorem dX7_laysProducts_47 : decode cX7_laysProducts 47 = .ok (.goto (-40), 3) := by decide +kernel
theorem dX7_laysProducts_50 : decode cX7_laysProducts 50 = .ok (.return_, 1) := by decide +kernel
theorem dX7_laysSort_0 : decode cX7_laysSort 0 = .ok (.iconst 0, 1) := by decide +kernel
theorem dX7_laysSort_1 : decode cX7_laysSort 1 = .ok (.istore_n 3, 1) := by decide +kernel
theorem dX7_laysSort_2 : decode cX7_laysSort 2 = .ok (.iload_n 3, 1) := by decide +kernel
theorem dX7_laysSort_3 : decode cX7_laysSort 3 = .ok (.aload_n 0, 1) := by decide +kernel
theorem dX7_laysSort_4 : decode cX7_laysSort 4 = .ok (.invokevirtual 232, 3) := by decide +kernel
theorem dX7_laysSort_7 : decode cX7_laysSort 7 = .ok (.if_icmp .ge 156, 3) := by decide +kernel
theorem dX7_laysSort_10 : decode cX7_laysSort 10 = .ok (.iconst 0, 1) := by decide +kernel
theorem dX7_laysSort_11 : decode cX7_laysSort 11 = .ok (.istore 4, 2) := by decide +kernel
theorem dX7_laysSort_13 : decode cX7_laysSort 13 = .ok (.iload 4, 2) := by decide +kernel
theorem dX7_laysSort_15 : decode cX7_laysSort 15 = .ok (.aload_n 0, 1) := by decide +kernel
theorem dX7_laysSort_16 : decode cX7_laysSort 16 = .ok (.invokevirtual 232, 3) := by decide +kernel
theorem dX7_laysSort_19 : decode cX7_laysSort 19 = .ok (.if_icmp .ge 138, 3) := by decide +kernel
theorem dX7_laysSort_22 : decode cX7_laysSort 22 = .ok (.iload_n 2, 1) := by decide +kernel
theorem dX7_laysSort_23 : decode cX7_laysSort 23 = .ok (.ifCond .eq 8, 3) := by decide +kernel
theorem dX7_laysSort_26 : decode cX7_laysSort 26 = .ok (.iload_n 2, 1) := by decide +kernel
theorem dX7_laysSort_27 : decode cX7_laysSort 27 = .ok (.iconst 3, 1) := by decide +kernel
theorem dX7_laysSort_28 : decode cX7_laysSort 28 = .ok (.if_icmp .ne 7, 3) := by decide +kernel
theorem dX7_laysSort_31 : decode cX7_laysSort 31 = .ok (.iconst 1, 1) := by decide +kernel
theorem dX7_laysSort_32 : decode cX7_laysSort 32 = .ok (.goto 4, 3) := by decide +kernel
theorem dX7_laysSort_35 : decode cX7_laysSort 35 = .ok (.iconst 0, 1) := by decide +kernel
theorem dX7_laysSort_36 : decode cX7_laysSort 36 = .ok (.istore 5, 2) := by decide +kernel
theorem dX7_laysSort_38 : decode cX7_laysSort 38 = .ok (.aload_n 0, 1) := by decide +kernel
theorem dX7_laysSort_39 : decode cX7_laysSort 39 = .ok (.iload_n 3, 1) := by decide +kernel
theorem dX7_laysSort_40 : decode cX7_laysSort 40 = .ok (.iload_n 1, 1) := by decide +kernel
theorem dX7_laysSort_41 : decode cX7_laysSort 41 = .ok (.invokevirtual 292, 3) := by decide +kernel
theorem dX7_laysSort_44 : decode cX7_laysSort 44 = .ok (.ifCond .eq 107, 3) := by decide +kernel
theorem dX7_laysSort_47 : decode cX7_laysSort 47 = .ok (.aload_n 0, 1) := by decide +kernel
theorem dX7_laysSort_48 : decode cX7_laysSort 48 = .ok (.iload 4, 2) := by decide +kernel
theorem dX7_laysSort_50 : decode cX7_laysSort 50 = .ok (.iload_n 1, 1) := by decide +kernel
theorem dX7_laysSort_51 : decode cX7_laysSort 51 = .ok (.invokevirtual 292, 3) := by decide +kernel
theorem dX7_laysSort_54 : decode cX7_laysSort 54 = .ok (.ifCond .eq 97, 3) := by decide +kernel
theorem dX7_laysSort_57 : decode cX7_laysSort 57 = .ok (.iload_n 3, 1) := by decide +kernel
theorem dX7_laysSort_58 : decode cX7_laysSort 58 = .ok (.iload 4, 2) := by decide +kernel
theorem dX7_laysSort_60 : decode cX7_laysSort 60 = .ok (.if_icmp .eq 91, 3) := by decide +kernel
theorem dX7_laysSort_63 : decode cX7_laysSort 63 = .ok (.iload 5, 2) := by decide +kernel
theorem dX7_laysSort_65 : decode cX7_laysSort 65 = .ok (.ifCond .eq 12, 3) := by decide +kernel
theorem dX7_laysSort_68 : decode cX7_laysSort 68 = .ok (.iload_n 3, 1) := by decide +kernel
theorem dX7_laysSort_69 : decode cX7_laysSort 69 = .ok (.iload 4, 2) := by decide +kernel
theorem dX7_laysSort_71 : decode cX7_laysSort 71 = .ok (.if_icmp .le 6, 3) := by decide +kernel
theorem dX7_laysSort_74 : decode cX7_laysSort 74 = .ok (.goto 77, 3) := by decide +kernel
theorem dX7_laysSort_77 : decode cX7_laysSort 77 = .ok (.iload_n 2, 1) := by decide +kernel
theorem dX7_laysSort_78 : decode cX7_laysSort 78 = .ok (.iconst 3, 1) := by decide +kernel
theorem dX7_laysSort_79 : decode cX7_laysSort 79 = .ok (.if_icmp .eq 21, 3) := by decide +kernel
theorem dX7_laysSort_82 : decode cX7_laysSort 82 = .ok (.iload_n 2, 1) := by decide +kernel
theorem dX7_laysSort_83 : decode cX7_laysSort 83 = .ok (.iconst 5, 1) := by decide +kernel
theorem dX7_laysSort_84 : decode cX7_laysSort 84 = .ok (.if_icmp .eq 16, 3) := by decide +kernel
theorem dX7_laysSort_87 : decode cX7_laysSort 87 = .ok (.aload_n 0, 1) := by decide +kernel
theorem dX7_laysSort_88 : decode cX7_laysSort 88 = .ok (.iload_n 2, 1) := by decide +kernel
theorem dX7_laysSort_89 : decode cX7_laysSort 89 = .ok (.iload_n 3, 1) := by decide +kernel
theorem dX7_laysSort_90 : decode cX7_laysSort 90 = .ok (.iload 4, 2) := by decide +kernel
theorem dX7_laysSort_92 : decode cX7_laysSort 92 = .ok (.bipush (-2), 2) := by decide +kernel
theorem dX7_laysSort_94 : decode cX7_laysSort 94 = .ok (.invokevirtual 296, 3) := by decide +kernel
theorem dX7_laysSort_97 : decode cX7_laysSort 97 = .ok (.goto 54, 3) := by decide +kernel
theorem dX7_laysSort_100 : decode cX7_laysSort 100 = .ok (.iconst 0, 1) := by decide +kernel
theorem dX7_laysSort_101 : decode cX7_laysSort 101 = .ok (.istore 6, 2) := by decide +kernel
theorem dX7_laysSort_103 : decode cX7_laysSort 103 = .ok (.iload 6, 2) := by decide +kernel
theorem dX7_laysSort_105 : decode cX7_laysSort 105 = .ok (.aload_n 0, 1) := by decide +kernel
theorem dX7_laysSort_106 : decode cX7_laysSort 106 = .ok (.invokevirtual 232, 3) := by decide +kernel
theorem dX7_laysSort_109 : decode cX7_laysSort 109 = .ok (.if_icmp .ge 42, 3) := by decide +kernel
theorem dX7_laysSort_112 : decode cX7_laysSort 112 = .ok (.aload_n 0, 1) := by decide +kernel
theorem dX7_laysSort_113 : decode cX7_laysSort 113 = .ok (.iload 6, 2) := by decide +kernel
theorem dX7_laysSort_115 : decode cX7_laysSort 115 = .ok (.iload_n 1, 1) := by decide +kernel
theorem dX7_laysSort_116 : decode cX7_laysSort 116 = .ok (.invokevirtual 292, 3) := by decide +kernel
theorem dX7_laysSort_119 : decode cX7_laysSort 119 = .ok (.ifCond .eq 26, 3) := by decide +kernel
theorem dX7_laysSort_122 : decode cX7_laysSort 122 = .ok (.iload 6, 2) := by decide +kernel
theorem dX7_laysSort_124 : decode cX7_laysSort 124 = .ok (.iload_n 3, 1) := by decide +kernel
theorem dX7_laysSort_125 : decode cX7_laysSort 125 = .ok (.if_icmp .eq 20, 3) := by decide +kernel
theorem dX7_laysSort_128 : decode cX7_laysSort 128 = .ok (.iload 6, 2) := by decide +kernel
theorem dX7_laysSort_130 : decode cX7_laysSort 130 = .ok (.iload 4, 2) := by decide +kernel
theorem dX7_laysSort_132 : decode cX7_laysSort 132 = .ok (.if_icmp .eq 13, 3) := by decide +kernel
theorem dX7_laysSort_135 : decode cX7_laysSort 135 = .ok (.aload_n 0, 1) := by decide +kernel
theorem dX7_laysSort_136 : decode cX7_laysSort 136 = .ok (.iload_n 2, 1) := by decide +kernel
theorem dX7_laysSort_137 : decode cX7_laysSort 137 = .ok (.iload_n 3, 1) := by decide +kernel
theorem dX7_laysSort_138 : decode cX7_laysSort 138 = .ok (.iload 4, 2) := by decide +kernel
theorem dX7_laysSort_140 : decode cX7_laysSort 140 = .ok (.iload 6, 2) := by decide +kernel
theorem dX7_laysSort_142 : decode cX7_laysSort 142 = .ok (.invokevirtual 296, 3) := by decide +kernel
theorem dX7_laysSort_145 : decode cX7_laysSort 145 = .ok (.iinc 6 1, 3) := by decide +kernel
theorem dX7_laysSort_148 : decode cX7_laysSort 148 = .ok (.goto (-45), 3) := by decide +kernel
theorem dX7_laysSort_151 : decode cX7_laysSort 151 = .ok (.iinc 4 1, 3) := by decide +kernel
theorem dX7_laysSort_154 : decode cX7_laysSort 154 = .ok (.goto (-141), 3) := by decide +kernel
theorem dX7_laysSort_157 : decode cX7_laysSort 157 = .ok (.iinc 3 1, 3) := by decide +kernel
theorem dX7_laysSort_160 : decode cX7_laysSort 160 = .ok (.goto (-158), 3) := by decide +kernel
theorem dX7_laysSort_163 : decode cX7_laysSort 163 = .ok (.return_, 1) := by decide +kernel
theorem dX7_isIn_0 : decode cX7_isIn 0 = .ok (.aload_n 0, 1) := by decide +kernel
theorem dX7_isIn_1 : decode cX7_isIn 1 = .ok (.getfield 63, 3) := by decide +kernel
theorem dX7_isIn_4 : decode cX7_isIn 4 = .ok (.iload_n 1, 1) := by decide +kernel
theorem dX7_isIn_5 : decode cX7_isIn 5 = .ok (.iaload, 1) := by decide +kernel
theorem dX7_isIn_6 : decode cX7_isIn 6 = .ok (.iload_n 2, 1) := by decide +kernel
theorem dX7_isIn_7 : decode cX7_isIn 7 = .ok (.if_icmp .eq 23, 3) := by decide +kernel
theorem dX7_isIn_10 : decode cX7_isIn 10 = .ok (.aload_n 0, 1) := by decide +kernel
theorem dX7_isIn_11 : decode cX7_isIn 11 = .ok (.getfield 66, 3) := by decide +kernel
theorem dX7_isIn_14 : decode cX7_isIn 14 = .ok (.iload_n 1, 1) := by decide +kernel
theorem dX7_isIn_15 : decode cX7_isIn 15 = .ok (.iaload, 1) := by decide +kernel
theorem dX7_isIn_16 : decode cX7_isIn 16 = .ok (.iload_n 2, 1) := by decide +kernel
theorem dX7_isIn_17 : decode cX7_isIn 17 = .ok (.if_icmp .eq 13, 3) := by decide +kernel
theorem dX7_isIn_20 : decode cX7_isIn 20 = .ok (.aload_n 0, 1) := by decide +kernel
theorem dX7_isIn_21 : decode cX7_isIn 21 = .ok (.getfield 69, 3) := by decide +kernel
theorem dX7_isIn_24 : decode cX7_isIn 24 = .ok (.iload_n 1, 1) := by decide +kernel
theorem dX7_isIn_25 : decode cX7_isIn 25 = .ok (.iaload, 1) := by decide +kernel
theorem dX7_isIn_26 : decode cX7_isIn 26 = .ok (.iload_n 2, 1) := by decide +kernel
theorem dX7_isIn_27 : decode cX7_isIn 27 = .ok (.if_icmp .ne 7, 3) := by decide +kernel
theorem dX7_isIn_30 : decode cX7_isIn 30 = .ok (.iconst 1, 1) := by decide +kernel
theorem dX7_isIn_31 : decode cX7_isIn 31 = .ok (.goto 4, 3) := by decide +kernel
theorem dX7_isIn_34 : decode cX7_isIn 34 = .ok (.iconst 0, 1) := by decide +kernel
theorem dX7_isIn_35 : decode cX7_isIn 35 = .ok (.ireturn, 1) := by decide +kernel
theorem dX7_hits_0 : decode cX7_hits 0 = .ok (.aload_n 0, 1) := by decide +kernel
theorem dX7_hits_1 : decode cX7_hits 1 = .ok (.iload_n 1, 1) := by decide +kernel
theorem dX7_hits_2 : decode cX7_hits 2 = .ok (.iload_n 2, 1) := by decide +kernel
theorem dX7_hits_3 : decode cX7_hits 3 = .ok (.invokevirtual 299, 3) := by decide +kernel
theorem dX7_hits_6 : decode cX7_hits 6 = .ok (.ifCond .eq 32, 3) := by decide +kernel
theorem dX7_hits_9 : decode cX7_hits 9 = .ok (.aload_n 0, 1) := by decide +kernel
theorem dX7_hits_10 : decode cX7_hits 10 = .ok (.getfield 51, 3) := by decide +kernel
theorem dX7_hits_13 : decode cX7_hits 13 = .ok (.iconst 0, 1) := by decide +kernel
theorem dX7_hits_14 : decode cX7_hits 14 = .ok (.iload_n 2, 1) := by decide +kernel
theorem dX7_hits_15 : decode cX7_hits 15 = .ok (.iadd, 1) := by decide +kernel
theorem dX7_hits_16 : decode cX7_hits 16 = .ok (.iaload, 1) := by decide +kernel
theorem dX7_hits_17 : decode cX7_hits 17 = .ok (.aload_n 0, 1) := by decide +kernel
theorem dX7_hits_18 : decode cX7_hits 18 = .ok (.getfield 72, 3) := by decide +kernel
theorem dX7_hits_21 : decode cX7_hits 21 = .ok (.iload_n 1, 1) := by decide +kernel
theorem dX7_hits_22 : decode cX7_hits 22 = .ok (.iaload, 1) := by decide +kernel
theorem dX7_hits_23 : decode cX7_hits 23 = .ok (.isub, 1) := by decide +kernel
theorem dX7_hits_24 : decode cX7_hits 24 = .ok (.invokestatic 274, 3) := by decide +kernel
theorem dX7_hits_27 : decode cX7_hits 27 = .ok (.aload_n 0, 1) := by decide +kernel
theorem dX7_hits_28 : decode cX7_hits 28 = .ok (.getfield 241, 3) := by decide +kernel
theorem dX7_hits_31 : decode cX7_hits 31 = .ok (.if_icmp .gt 7, 3) := by decide +kernel
theorem dX7_hits_34 : decode cX7_hits 34 = .ok (.iconst 1, 1) := by decide +kernel
theorem dX7_hits_35 : decode cX7_hits 35 = .ok (.goto 4, 3) := by decide +kernel
theorem dX7_hits_38 : decode cX7_hits 38 = .ok (.iconst 0, 1) := by decide +kernel
theorem dX7_hits_39 : decode cX7_hits 39 = .ok (.ireturn, 1) := by decide +kernel
theorem dX7_mayHit_0 : decode cX7_mayHit 0 = .ok (.aload_n 0, 1) := by decide +kernel
theorem dX7_mayHit_1 : decode cX7_mayHit 1 = .ok (.getfield 75, 3) := by decide +kernel
theorem dX7_mayHit_4 : decode cX7_mayHit 4 = .ok (.iload_n 1, 1) := by decide +kernel
theorem dX7_mayHit_5 : decode cX7_mayHit 5 = .ok (.iaload, 1) := by decide +kernel
theorem dX7_mayHit_6 : decode cX7_mayHit 6 = .ok (.ifCond .lt 42, 3) := by decide +kernel
theorem dX7_mayHit_9 : decode cX7_mayHit 9 = .ok (.aload_n 0, 1) := by decide +kernel
theorem dX7_mayHit_10 : decode cX7_mayHit 10 = .ok (.getfield 51, 3) := by decide +kernel
theorem dX7_mayHit_13 : decode cX7_mayHit 13 = .ok (.iconst 0, 1) := by decide +kernel
theorem dX7_mayHit_14 : decode cX7_mayHit 14 = .ok (.iload_n 2, 1) := by decide +kernel
theorem dX7_mayHit_15 : decode cX7_mayHit 15 = .ok (.iadd, 1) := by decide +kernel
theorem dX7_mayHit_16 : decode cX7_mayHit 16 = .ok (.iaload, 1) := by decide +kernel
theorem dX7_mayHit_17 : decode cX7_mayHit 17 = .ok (.ifCond .eq 31, 3) := by decide +kernel
theorem dX7_mayHit_20 : decode cX7_mayHit 20 = .ok (.aload_n 0, 1) := by decide +kernel
theorem dX7_mayHit_21 : decode cX7_mayHit 21 = .ok (.iload_n 1, 1) := by decide +kernel
theorem dX7_mayHit_22 : decode cX7_mayHit 22 = .ok (.iload_n 2, 1) := by decide +kernel
theorem dX7_mayHit_23 : decode cX7_mayHit 23 = .ok (.invokevirtual 302, 3) := by decide +kernel
theorem dX7_mayHit_26 : decode cX7_mayHit 26 = .ok (.ifCond .ne 22, 3) := by decide +kernel
theorem dX7_mayHit_29 : decode cX7_mayHit 29 = .ok (.aload_n 0, 1) := by decide +kernel
theorem dX7_mayHit_30 : decode cX7_mayHit 30 = .ok (.getfield 78, 3) := by decide +kernel
theorem dX7_mayHit_33 : decode cX7_mayHit 33 = .ok (.iload_n 1, 1) := by decide +kernel
theorem dX7_mayHit_34 : decode cX7_mayHit 34 = .ok (.iaload, 1) := by decide +kernel
theorem dX7_mayHit_35 : decode cX7_mayHit 35 = .ok (.aload_n 0, 1) := by decide +kernel
theorem dX7_mayHit_36 : decode cX7_mayHit 36 = .ok (.getfield 51, 3) := by decide +kernel
theorem dX7_mayHit_39 : decode cX7_mayHit 39 = .ok (.bipush 73, 2) := by decide +kernel
theorem dX7_mayHit_41 : decode cX7_mayHit 41 = .ok (.iload_n 2, 1) := by decide +kernel
theorem dX7_mayHit_42 : decode cX7_mayHit 42 = .ok (.iadd, 1) := by decide +kernel
theorem dX7_mayHit_43 : decode cX7_mayHit 43 = .ok (.iaload, 1) := by decide +kernel
theorem dX7_mayHit_44 : decode cX7_mayHit 44 = .ok (.iand, 1) := by decide +kernel
theorem dX7_mayHit_45 : decode cX7_mayHit 45 = .ok (.ifCond .ne 5, 3) := by decide +kernel
theorem dX7_mayHit_48 : decode cX7_mayHit 48 = .ok (.iconst 0, 1) := by decide +kernel
theorem dX7_mayHit_49 : decode cX7_mayHit 49 = .ok (.ireturn, 1) := by decide +kernel
theorem dX7_mayHit_50 : decode cX7_mayHit 50 = .ok (.aload_n 0, 1) := by decide +kernel
theorem dX7_mayHit_51 : decode cX7_mayHit 51 = .ok (.getfield 23, 3) := by decide +kernel
theorem dX7_mayHit_54 : decode cX7_mayHit 54 = .ok (.aload_n 0, 1) := by decide +kernel
theorem dX7_mayHit_55 : decode cX7_mayHit 55 = .ok (.getfield 63, 3) := by decide +kernel
theorem dX7_mayHit_58 : decode cX7_mayHit 58 = .ok (.iload_n 1, 1) := by decide +kernel
theorem dX7_mayHit_59 : decode cX7_mayHit 59 = .ok (.iaload, 1) := by decide +kernel
theorem dX7_mayHit_60 : decode cX7_mayHit 60 = .ok (.iaload, 1) := by decide +kernel
theorem dX7_mayHit_61 : decode cX7_mayHit 61 = .ok (.istore_n 3, 1) := by decide +kernel
theorem dX7_mayHit_62 : decode cX7_mayHit 62 = .ok (.aload_n 0, 1) := by decide +kernel
theorem dX7_mayHit_63 : decode cX7_mayHit 63 = .ok (.getfield 23, 3) := by decide +kernel
theorem dX7_mayHit_66 : decode cX7_mayHit 66 = .ok (.iload_n 2, 1) := by decide +kernel
theorem dX7_mayHit_67 : decode cX7_mayHit 67 = .ok (.iaload, 1) := by decide +kernel
theorem dX7_mayHit_68 : decode cX7_mayHit 68 = .ok (.iload_n 3, 1) := by decide +kernel
theorem dX7_mayHit_69 : decode cX7_mayHit 69 = .ok (.if_icmp .ne 5, 3) := by decide +kernel
theorem dX7_mayHit_72 : decode cX7_mayHit 72 = .ok (.iconst 1, 1) := by decide +kernel
theorem dX7_mayHit_73 : decode cX7_mayHit 73 = .ok (.ireturn, 1) := by decide +kernel
theorem dX7_mayHit_74 : decode cX7_mayHit 74 = .ok (.aload_n 0, 1) := by decide +kernel
theorem dX7_mayHit_75 : decode cX7_mayHit 75 = .ok (.getfield 41, 3) := by decide +kernel
theorem dX7_mayHit_78 : decode cX7_mayHit 78 = .ok (.iconst 3, 1) := by decide +kernel
theorem dX7_mayHit_79 : decode cX7_mayHit 79 = .ok (.iload_n 3, 1) := by decide +kernel
theorem dX7_mayHit_80 : decode cX7_mayHit 80 = .ok (.imul, 1) := by decide +kernel
theorem dX7_mayHit_81 : decode cX7_mayHit 81 = .ok (.aload_n 0, 1) := by decide +kernel
theorem dX7_mayHit_82 : decode cX7_mayHit 82 = .ok (.getfield 23, 3) := by decide +kernel
theorem dX7_mayHit_85 : decode cX7_mayHit 85 = .ok (.iload_n 2, 1) := by decide +kernel
theorem dX7_mayHit_86 : decode cX7_mayHit 86 = .ok (.iaload, 1) := by decide +kernel
theorem dX7_mayHit_87 : decode cX7_mayHit 87 = .ok (.iadd, 1) := by decide +kernel
theorem dX7_mayHit_88 : decode cX7_mayHit 88 = .ok (.iaload, 1) := by decide +kernel
theorem dX7_mayHit_89 : decode cX7_mayHit 89 = .ok (.istore 4, 2) := by decide +kernel
theorem dX7_mayHit_91 : decode cX7_mayHit 91 = .ok (.iload 4, 2) := by decide +kernel
theorem dX7_mayHit_93 : decode cX7_mayHit 93 = .ok (.bipush (-2), 2) := by decide +kernel
theorem dX7_mayHit_95 : decode cX7_mayHit 95 = .ok (.if_icmp .eq 18, 3) := by decide +kernel
theorem dX7_mayHit_98 : decode cX7_mayHit 98 = .ok (.aload_n 0, 1) := by decide +kernel
theorem dX7_mayHit_99 : decode cX7_mayHit 99 = .ok (.getfield 75, 3) := by decide +kernel
theorem dX7_mayHit_102 : decode cX7_mayHit 102 = .ok (.iload_n 1, 1) := by decide +kernel
theorem dX7_mayHit_103 : decode cX7_mayHit 103 = .ok (.iaload, 1) := by decide +kernel
theorem dX7_mayHit_104 : decode cX7_mayHit 104 = .ok (.iload 4, 2) := by decide +kernel
theorem dX7_mayHit_106 : decode cX7_mayHit 106 = .ok (.if_icmp .lt 7, 3) := by decide +kernel
theorem dX7_mayHit_109 : decode cX7_mayHit 109 = .ok (.iconst 1, 1) := by decide +kernel
theorem dX7_mayHit_110 : decode cX7_mayHit 110 = .ok (.goto 4, 3) := by decide +kernel
theorem dX7_mayHit_113 : decode cX7_mayHit 113 = .ok (.iconst 0, 1) := by decide +kernel
theorem dX7_mayHit_114 : decode cX7_mayHit 114 = .ok (.ireturn, 1) := by decide +kernel
theorem dX7_hitsOf_0 : decode cX7_hitsOf 0 = .ok (.iconst 0, 1) := by decide +kernel
theorem dX7_hitsOf_1 : decode cX7_hitsOf 1 = .ok (.istore_n 2, 1) := by decide +kernel
theorem dX7_hitsOf_2 : decode cX7_hitsOf 2 = .ok (.iconst 0, 1) := by decide +kernel
theorem dX7_hitsOf_3 : decode cX7_hitsOf 3 = .ok (.istore_n 3, 1) := by decide +kernel
theorem dX7_hitsOf_4 : decode cX7_hitsOf 4 = .ok (.iload_n 3, 1) := by decide +kernel
theorem dX7_hitsOf_5 : decode cX7_hitsOf 5 = .ok (.aload_n 0, 1) := by decide +kernel
theorem dX7_hitsOf_6 : decode cX7_hitsOf 6 = .ok (.invokevirtual 232, 3) := by decide +kernel
theorem dX7_hitsOf_9 : decode cX7_hitsOf 9 = .ok (.if_icmp .ge 24, 3) := by decide +kernel
theorem dX7_hitsOf_12 : decode cX7_hitsOf 12 = .ok (.aload_n 0, 1) := by decide +kernel
theorem dX7_hitsOf_13 : decode cX7_hitsOf 13 = .ok (.iload_n 1, 1) := by decide +kernel
theorem dX7_hitsOf_14 : decode cX7_hitsOf 14 = .ok (.iload_n 3, 1) := by decide +kernel
theorem dX7_hitsOf_15 : decode cX7_hitsOf 15 = .ok (.invokevirtual 305, 3) := by decide +kernel
theorem dX7_hitsOf_18 : decode cX7_hitsOf 18 = .ok (.ifCond .eq 9, 3) := by decide +kernel
theorem dX7_hitsOf_21 : decode cX7_hitsOf 21 = .ok (.iload_n 2, 1) := by decide +kernel
theorem dX7_hitsOf_22 : decode cX7_hitsOf 22 = .ok (.iconst 1, 1) := by decide +kernel
theorem dX7_hitsOf_23 : decode cX7_hitsOf 23 = .ok (.iload_n 3, 1) := by decide +kernel
theorem dX7_hitsOf_24 : decode cX7_hitsOf 24 = .ok (.ishl, 1) := by decide +kernel
theorem dX7_hitsOf_25 : decode cX7_hitsOf 25 = .ok (.ior, 1) := by decide +kernel
theorem dX7_hitsOf_26 : decode cX7_hitsOf 26 = .ok (.istore_n 2, 1) := by decide +kernel
theorem dX7_hitsOf_27 : decode cX7_hitsOf 27 = .ok (.iinc 3 1, 3) := by decide +kernel
theorem dX7_hitsOf_30 : decode cX7_hitsOf 30 = .ok (.goto (-26), 3) := by decide +kernel
theorem dX7_hitsOf_33 : decode cX7_hitsOf 33 = .ok (.iload_n 2, 1) := by decide +kernel
theorem dX7_hitsOf_34 : decode cX7_hitsOf 34 = .ok (.ireturn, 1) := by decide +kernel
theorem dX7_bits_0 : decode cX7_bits 0 = .ok (.iconst 0, 1) := by decide +kernel
theorem dX7_bits_1 : decode cX7_bits 1 = .ok (.istore_n 1, 1) := by decide +kernel
theorem dX7_bits_2 : decode cX7_bits 2 = .ok (.iload_n 0, 1) := by decide +kernel
theorem dX7_bits_3 : decode cX7_bits 3 = .ok (.istore_n 2, 1) := by decide +kernel
theorem dX7_bits_4 : decode cX7_bits 4 = .ok (.iload_n 2, 1) := by decide +kernel
theorem dX7_bits_5 : decode cX7_bits 5 = .ok (.ifCond .eq 15, 3) := by decide +kernel
theorem dX7_bits_8 : decode cX7_bits 8 = .ok (.iinc 1 1, 3) := by decide +kernel
theorem dX7_bits_11 : decode cX7_bits 11 = .ok (.iload_n 2, 1) := by decide +kernel
theorem dX7_bits_12 : decode cX7_bits 12 = .ok (.iload_n 2, 1) := by decide +kernel
theorem dX7_bits_13 : decode cX7_bits 13 = .ok (.iconst 1, 1) := by decide +kernel
theorem dX7_bits_14 : decode cX7_bits 14 = .ok (.isub, 1) := by decide +kernel
theorem dX7_bits_15 : decode cX7_bits 15 = .ok (.iand, 1) := by decide +kernel
theorem dX7_bits_16 : decode cX7_bits 16 = .ok (.istore_n 2, 1) := by decide +kernel
theorem dX7_bits_17 : decode cX7_bits 17 = .ok (.goto (-13), 3) := by decide +kernel
theorem dX7_bits_20 : decode cX7_bits 20 = .ok (.iload_n 1, 1) := by decide +kernel
theorem dX7_bits_21 : decode cX7_bits 21 = .ok (.ireturn, 1) := by decide +kernel
theorem dX7_allHits_0 : decode cX7_allHits 0 = .ok (.iconst 0, 1) := by decide +kernel
theorem dX7_allHits_1 : decode cX7_allHits 1 = .ok (.istore_n 1, 1) := by decide +kernel
theorem dX7_allHits_2 : decode cX7_allHits 2 = .ok (.iconst 0, 1) := by decide +kernel
theorem dX7_allHits_3 : decode cX7_allHits 3 = .ok (.istore_n 2, 1) := by decide +kernel
theorem dX7_allHits_4 : decode cX7_allHits 4 = .ok (.iload_n 2, 1) := by decide +kernel
theorem dX7_allHits_5 : decode cX7_allHits 5 = .ok (.aload_n 0, 1) := by decide +kernel
theorem dX7_allHits_6 : decode cX7_allHits 6 = .ok (.getfield 280, 3) := by decide +kernel
theorem dX7_allHits_9 : decode cX7_allHits 9 = .ok (.if_icmp .ge 20, 3) := by decide +kernel
theorem dX7_allHits_12 : decode cX7_allHits 12 = .ok (.iload_n 1, 1) := by decide +kernel
theorem dX7_allHits_13 : decode cX7_allHits 13 = .ok (.aload_n 0, 1) := by decide +kernel
theorem dX7_allHits_14 : decode cX7_allHits 14 = .ok (.iload_n 2, 1) := by decide +kernel
theorem dX7_allHits_15 : decode cX7_allHits 15 = .ok (.invokevirtual 308, 3) := by decide +kernel
theorem dX7_allHits_18 : decode cX7_allHits 18 = .ok (.invokestatic 311, 3) := by decide +kernel
theorem dX7_allHits_21 : decode cX7_allHits 21 = .ok (.iadd, 1) := by decide +kernel
theorem dX7_allHits_22 : decode cX7_allHits 22 = .ok (.istore_n 1, 1) := by decide +kernel
theorem dX7_allHits_23 : decode cX7_allHits 23 = .ok (.iinc 2 1, 3) := by decide +kernel
theorem dX7_allHits_26 : decode cX7_allHits 26 = .ok (.goto (-22), 3) := by decide +kernel
theorem dX7_allHits_29 : decode cX7_allHits 29 = .ok (.iload_n 1, 1) := by decide +kernel
theorem dX7_allHits_30 : decode cX7_allHits 30 = .ok (.ireturn, 1) := by decide +kernel
theorem dX7_crowd_0 : decode cX7_crowd 0 = .ok (.iload_n 1, 1) := by decide +kernel
theorem dX7_crowd_1 : decode cX7_crowd 1 = .ok (.iload_n 2, 1) := by decide +kernel
theorem dX7_crowd_2 : decode cX7_crowd 2 = .ok (.if_icmp .eq 93, 3) := by decide +kernel
theorem dX7_crowd_5 : decode cX7_crowd 5 = .ok (.aload_n 0, 1) := by decide +kernel
theorem dX7_crowd_6 : decode cX7_crowd 6 = .ok (.getfield 23, 3) := by decide +kernel
theorem dX7_crowd_9 : decode cX7_crowd 9 = .ok (.iload_n 1, 1) := by decide +kernel
theorem dX7_crowd_10 : decode cX7_crowd 10 = .ok (.iaload, 1) := by decide +kernel
theorem dX7_crowd_11 : decode cX7_crowd 11 = .ok (.aload_n 0, 1) := by decide +kernel
theorem dX7_crowd_12 : decode cX7_crowd 12 = .ok (.getfield 23, 3) := by decide +kernel
theorem dX7_crowd_15 : decode cX7_crowd 15 = .ok (.iload_n 2, 1) := by decide +kernel
theorem dX7_crowd_16 : decode cX7_crowd 16 = .ok (.iaload, 1) := by decide +kernel
theorem dX7_crowd_17 : decode cX7_crowd 17 = .ok (.if_icmp .ne 78, 3) := by decide +kernel
theorem dX7_crowd_20 : decode cX7_crowd 20 = .ok (.aload_n 0, 1) := by decide +kernel
theorem dX7_crowd_21 : decode cX7_crowd 21 = .ok (.getfield 51, 3) := by decide +kernel
theorem dX7_crowd_24 : decode cX7_crowd 24 = .ok (.bipush 73, 2) := by decide +kernel
theorem dX7_crowd_26 : decode cX7_crowd 26 = .ok (.iload_n 1, 1) := by decide +kernel
theorem dX7_crowd_27 : decode cX7_crowd 27 = .ok (.iadd, 1) := by decide +kernel
theorem dX7_crowd_28 : decode cX7_crowd 28 = .ok (.iaload, 1) := by decide +kernel
theorem dX7_crowd_29 : decode cX7_crowd 29 = .ok (.aload_n 0, 1) := by decide +kernel
theorem dX7_crowd_30 : decode cX7_crowd 30 = .ok (.getfield 51, 3) := by decide +kernel
theorem dX7_crowd_33 : decode cX7_crowd 33 = .ok (.bipush 73, 2) := by decide +kernel
theorem dX7_crowd_35 : decode cX7_crowd 35 = .ok (.iload_n 2, 1) := by decide +kernel
theorem dX7_crowd_36 : decode cX7_crowd 36 = .ok (.iadd, 1) := by decide +kernel
theorem dX7_crowd_37 : decode cX7_crowd 37 = .ok (.iaload, 1) := by decide +kernel
theorem dX7_crowd_38 : decode cX7_crowd 38 = .ok (.iand, 1) := by decide +kernel
theorem dX7_crowd_39 : decode cX7_crowd 39 = .ok (.ifCond .eq 56, 3) := by decide +kernel
theorem dX7_crowd_42 : decode cX7_crowd 42 = .ok (.aload_n 0, 1) := by decide +kernel
theorem dX7_crowd_43 : decode cX7_crowd 43 = .ok (.getfield 51, 3) := by decide +kernel
theorem dX7_crowd_46 : decode cX7_crowd 46 = .ok (.iconst 0, 1) := by decide +kernel
theorem dX7_crowd_47 : decode cX7_crowd 47 = .ok (.iload_n 1, 1) := by decide +kernel
theorem dX7_crowd_48 : decode cX7_crowd 48 = .ok (.iadd, 1) := by decide +kernel
theorem dX7_crowd_49 : decode cX7_crowd 49 = .ok (.iaload, 1) := by decide +kernel
theorem dX7_crowd_50 : decode cX7_crowd 50 = .ok (.ifCond .le 45, 3) := by decide +kernel
theorem dX7_crowd_53 : decode cX7_crowd 53 = .ok (.aload_n 0, 1) := by decide +kernel
theorem dX7_crowd_54 : decode cX7_crowd 54 = .ok (.getfield 51, 3) := by decide +kernel
theorem dX7_crowd_57 : decode cX7_crowd 57 = .ok (.iconst 0, 1) := by decide +kernel
theorem dX7_crowd_58 : decode cX7_crowd 58 = .ok (.iload_n 2, 1) := by decide +kernel
theorem dX7_crowd_59 : decode cX7_crowd 59 = .ok (.iadd, 1) := by decide +kernel
theorem dX7_crowd_60 : decode cX7_crowd 60 = .ok (.iaload, 1) := by decide +kernel
theorem dX7_crowd_61 : decode cX7_crowd 61 = .ok (.ifCond .le 34, 3) := by decide +kernel
theorem dX7_crowd_64 : decode cX7_crowd 64 = .ok (.aload_n 0, 1) := by decide +kernel
theorem dX7_crowd_65 : decode cX7_crowd 65 = .ok (.getfield 51, 3) := by decide +kernel
theorem dX7_crowd_68 : decode cX7_crowd 68 = .ok (.iconst 0, 1) := by decide +kernel
theorem dX7_crowd_69 : decode cX7_crowd 69 = .ok (.iload_n 1, 1) := by decide +kernel
theorem dX7_crowd_70 : decode cX7_crowd 70 = .ok (.iadd, 1) := by decide +kernel
theorem dX7_crowd_71 : decode cX7_crowd 71 = .ok (.iaload, 1) := by decide +kernel
theorem dX7_crowd_72 : decode cX7_crowd 72 = .ok (.aload_n 0, 1) := by decide +kernel
theorem dX7_crowd_73 : decode cX7_crowd 73 = .ok (.getfield 51, 3) := by decide +kernel
theorem dX7_crowd_76 : decode cX7_crowd 76 = .ok (.iconst 0, 1) := by decide +kernel
theorem dX7_crowd_77 : decode cX7_crowd 77 = .ok (.iload_n 2, 1) := by decide +kernel
theorem dX7_crowd_78 : decode cX7_crowd 78 = .ok (.iadd, 1) := by decide +kernel
theorem dX7_crowd_79 : decode cX7_crowd 79 = .ok (.iaload, 1) := by decide +kernel
theorem dX7_crowd_80 : decode cX7_crowd 80 = .ok (.isub, 1) := by decide +kernel
theorem dX7_crowd_81 : decode cX7_crowd 81 = .ok (.invokestatic 274, 3) := by decide +kernel
theorem dX7_crowd_84 : decode cX7_crowd 84 = .ok (.aload_n 0, 1) := by decide +kernel
theorem dX7_crowd_85 : decode cX7_crowd 85 = .ok (.getfield 244, 3) := by decide +kernel
theorem dX7_crowd_88 : decode cX7_crowd 88 = .ok (.if_icmp .ge 7, 3) := by decide +kernel
theorem dX7_crowd_91 : decode cX7_crowd 91 = .ok (.iconst 1, 1) := by decide +kernel
theorem dX7_crowd_92 : decode cX7_crowd 92 = .ok (.goto 4, 3) := by decide +kernel
theorem dX7_crowd_95 : decode cX7_crowd 95 = .ok (.iconst 0, 1) := by decide +kernel
theorem dX7_crowd_96 : decode cX7_crowd 96 = .ok (.ireturn, 1) := by decide +kernel
theorem dX7_crowdsOf_0 : decode cX7_crowdsOf 0 = .ok (.iconst 0, 1) := by decide +kernel
theorem dX7_crowdsOf_1 : decode cX7_crowdsOf 1 = .ok (.istore_n 2, 1) := by decide +kernel
theorem dX7_crowdsOf_2 : decode cX7_crowdsOf 2 = .ok (.iconst 0, 1) := by decide +kernel
theorem dX7_crowdsOf_3 : decode cX7_crowdsOf 3 = .ok (.istore_n 3, 1) := by decide +kernel
theorem dX7_crowdsOf_4 : decode cX7_crowdsOf 4 = .ok (.iload_n 3, 1) := by decide +kernel
theorem dX7_crowdsOf_5 : decode cX7_crowdsOf 5 = .ok (.aload_n 0, 1) := by decide +kernel
theorem dX7_crowdsOf_6 : decode cX7_crowdsOf 6 = .ok (.invokevirtual 232, 3) := by decide +kernel
theorem dX7_crowdsOf_9 : decode cX7_crowdsOf 9 = .ok (.if_icmp .ge 24, 3) := by decide +kernel
theorem dX7_crowdsOf_12 : decode cX7_crowdsOf 12 = .ok (.aload_n 0, 1) := by decide +kernel
theorem dX7_crowdsOf_13 : decode cX7_crowdsOf 13 = .ok (.iload_n 1, 1) := by decide +kernel
theorem dX7_crowdsOf_14 : decode cX7_crowdsOf 14 = .ok (.iload_n 3, 1) := by decide +kernel
theorem dX7_crowdsOf_15 : decode cX7_crowdsOf 15 = .ok (.invokevirtual 314, 3) := by decide +kernel
theorem dX7_crowdsOf_18 : decode cX7_crowdsOf 18 = .ok (.ifCond .eq 9, 3) := by decide +kernel
theorem dX7_crowdsOf_21 : decode cX7_crowdsOf 21 = .ok (.iload_n 2, 1) := by decide +kernel
theorem dX7_crowdsOf_22 : decode cX7_crowdsOf 22 = .ok (.iconst 1, 1) := by decide +kernel
theorem dX7_crowdsOf_23 : decode cX7_crowdsOf 23 = .ok (.iload_n 3, 1) := by decide +kernel
theorem dX7_crowdsOf_24 : decode cX7_crowdsOf 24 = .ok (.ishl, 1) := by decide +kernel
theorem dX7_crowdsOf_25 : decode cX7_crowdsOf 25 = .ok (.ior, 1) := by decide +kernel
theorem dX7_crowdsOf_26 : decode cX7_crowdsOf 26 = .ok (.istore_n 2, 1) := by decide +kernel
theorem dX7_crowdsOf_27 : decode cX7_crowdsOf 27 = .ok (.iinc 3 1, 3) := by decide +kernel
theorem dX7_crowdsOf_30 : decode cX7_crowdsOf 30 = .ok (.goto (-26), 3) := by decide +kernel
theorem dX7_crowdsOf_33 : decode cX7_crowdsOf 33 = .ok (.iload_n 2, 1) := by decide +kernel
theorem dX7_crowdsOf_34 : decode cX7_crowdsOf 34 = .ok (.ireturn, 1) := by decide +kernel
theorem dX7_allCrowds_0 : decode cX7_allCrowds 0 = .ok (.iconst 0, 1) := by decide +kernel
theorem dX7_allCrowds_1 : decode cX7_allCrowds 1 = .ok (.istore_n 1, 1) := by decide +kernel
theorem dX7_allCrowds_2 : decode cX7_allCrowds 2 = .ok (.iconst 0, 1) := by decide +kernel
theorem dX7_allCrowds_3 : decode cX7_allCrowds 3 = .ok (.istore_n 2, 1) := by decide +kernel
theorem dX7_allCrowds_4 : decode cX7_allCrowds 4 = .ok (.iload_n 2, 1) := by decide +kernel
theorem dX7_allCrowds_5 : decode cX7_allCrowds 5 = .ok (.aload_n 0, 1) := by decide +kernel
theorem dX7_allCrowds_6 : decode cX7_allCrowds 6 = .ok (.invokevirtual 232, 3) := by decide +kernel
theorem dX7_allCrowds_9 : decode cX7_allCrowds 9 = .ok (.if_icmp .ge 20, 3) := by decide +kernel
theorem dX7_allCrowds_12 : decode cX7_allCrowds 12 = .ok (.iload_n 1, 1) := by decide +kernel
theorem dX7_allCrowds_13 : decode cX7_allCrowds 13 = .ok (.aload_n 0, 1) := by decide +kernel
theorem dX7_allCrowds_14 : decode cX7_allCrowds 14 = .ok (.iload_n 2, 1) := by decide +kernel
theorem dX7_allCrowds_15 : decode cX7_allCrowds 15 = .ok (.invokevirtual 317, 3) := by decide +kernel
theorem dX7_allCrowds_18 : decode cX7_allCrowds 18 = .ok (.invokestatic 311, 3) := by decide +kernel
theorem dX7_allCrowds_21 : decode cX7_allCrowds 21 = .ok (.iadd, 1) := by decide +kernel
theorem dX7_allCrowds_22 : decode cX7_allCrowds 22 = .ok (.istore_n 1, 1) := by decide +kernel
theorem dX7_allCrowds_23 : decode cX7_allCrowds 23 = .ok (.iinc 2 1, 3) := by decide +kernel
theorem dX7_allCrowds_26 : decode cX7_allCrowds 26 = .ok (.goto (-22), 3) := by decide +kernel
theorem dX7_allCrowds_29 : decode cX7_allCrowds 29 = .ok (.iload_n 1, 1) := by decide +kernel
theorem dX7_allCrowds_30 : decode cX7_allCrowds 30 = .ok (.iconst 2, 1) := by decide +kernel
theorem dX7_allCrowds_31 : decode cX7_allCrowds 31 = .ok (.idiv, 1) := by decide +kernel
theorem dX7_allCrowds_32 : decode cX7_allCrowds 32 = .ok (.ireturn, 1) := by decide +kernel
theorem dX7_highOf_0 : decode cX7_highOf 0 = .ok (.aload_n 0, 1) := by decide +kernel
theorem dX7_highOf_1 : decode cX7_highOf 1 = .ok (.getfield 32, 3) := by decide +kernel
theorem dX7_highOf_4 : decode cX7_highOf 4 = .ok (.iload_n 1, 1) := by decide +kernel
theorem dX7_highOf_5 : decode cX7_highOf 5 = .ok (.iaload, 1) := by decide +kernel
theorem dX7_highOf_6 : decode cX7_highOf 6 = .ok (.aload_n 0, 1) := by decide +kernel
theorem dX7_highOf_7 : decode cX7_highOf 7 = .ok (.getfield 238, 3) := by decide +kernel
theorem dX7_highOf_10 : decode cX7_highOf 10 = .ok (.if_icmp .ge 12, 3) := by decide +kernel
theorem dX7_highOf_13 : decode cX7_highOf 13 = .ok (.aload_n 0, 1) := by decide +kernel
theorem dX7_highOf_14 : decode cX7_highOf 14 = .ok (.getfield 32, 3) := by decide +kernel
theorem dX7_highOf_17 : decode cX7_highOf 17 = .ok (.iload_n 1, 1) := by decide +kernel
theorem dX7_highOf_18 : decode cX7_highOf 18 = .ok (.iaload, 1) := by decide +kernel
theorem dX7_highOf_19 : decode cX7_highOf 19 = .ok (.goto 7, 3) := by decide +kernel
theorem dX7_highOf_22 : decode cX7_highOf 22 = .ok (.aload_n 0, 1) := by decide +kernel
theorem dX7_highOf_23 : decode cX7_highOf 23 = .ok (.getfield 238, 3) := by decide +kernel
theorem dX7_highOf_26 : decode cX7_highOf 26 = .ok (.ireturn, 1) := by decide +kernel
theorem dX7_isRight_0 : decode cX7_isRight 0 = .ok (.aload_n 0, 1) := by decide +kernel
theorem dX7_isRight_1 : decode cX7_isRight 1 = .ok (.getfield 51, 3) := by decide +kernel
theorem dX7_isRight_4 : decode cX7_isRight 4 = .ok (.iconst 0, 1) := by decide +kernel
theorem dX7_isRight_5 : decode cX7_isRight 5 = .ok (.iload_n 1, 1) := by decide +kernel
theorem dX7_isRight_6 : decode cX7_isRight 6 = .ok (.iadd, 1) := by decide +kernel
theorem dX7_isRight_7 : decode cX7_isRight 7 = .ok (.iaload, 1) := by decide +kernel
theorem dX7_isRight_8 : decode cX7_isRight 8 = .ok (.istore_n 2, 1) := by decide +kernel
theorem dX7_isRight_9 : decode cX7_isRight 9 = .ok (.iload_n 2, 1) := by decide +kernel
theorem dX7_isRight_10 : decode cX7_isRight 10 = .ok (.aload_n 0, 1) := by decide +kernel
theorem dX7_isRight_11 : decode cX7_isRight 11 = .ok (.getfield 29, 3) := by decide +kernel
theorem dX7_isRight_14 : decode cX7_isRight 14 = .ok (.iload_n 1, 1) := by decide +kernel
theorem dX7_isRight_15 : decode cX7_isRight 15 = .ok (.iaload, 1) := by decide +kernel
theorem dX7_isRight_16 : decode cX7_isRight 16 = .ok (.if_icmp .lt 28, 3) := by decide +kernel
theorem dX7_isRight_19 : decode cX7_isRight 19 = .ok (.iload_n 2, 1) := by decide +kernel
theorem dX7_isRight_20 : decode cX7_isRight 20 = .ok (.aload_n 0, 1) := by decide +kernel
theorem dX7_isRight_21 : decode cX7_isRight 21 = .ok (.iload_n 1, 1) := by decide +kernel
theorem dX7_isRight_22 : decode cX7_isRight 22 = .ok (.invokevirtual 320, 3) := by decide +kernel
theorem dX7_isRight_25 : decode cX7_isRight 25 = .ok (.if_icmp .gt 19, 3) := by decide +kernel
theorem dX7_isRight_28 : decode cX7_isRight 28 = .ok (.aload_n 0, 1) := by decide +kernel
theorem dX7_isRight_29 : decode cX7_isRight 29 = .ok (.getfield 51, 3) := by decide +kernel
theorem dX7_isRight_32 : decode cX7_isRight 32 = .ok (.bipush 12, 2) := by decide +kernel
theorem dX7_isRight_34 : decode cX7_isRight 34 = .ok (.iload_n 2, 1) := by decide +kernel
theorem dX7_isRight_35 : decode cX7_isRight 35 = .ok (.iadd, 1) := by decide +kernel
theorem dX7_isRight_36 : decode cX7_isRight 36 = .ok (.iaload, 1) := by decide +kernel
theorem dX7_isRight_37 : decode cX7_isRight 37 = .ok (.ifCond .ne 7, 3) := by decide +kernel
theorem dX7_isRight_40 : decode cX7_isRight 40 = .ok (.iconst 1, 1) := by decide +kernel
theorem dX7_isRight_41 : decode cX7_isRight 41 = .ok (.goto 4, 3) := by decide +kernel
theorem dX7_isRight_44 : decode cX7_isRight 44 = .ok (.iconst 0, 1) := by decide +kernel
theorem dX7_isRight_45 : decode cX7_isRight 45 = .ok (.ireturn, 1) := by decide +kernel
theorem dX7_isClean_0 : decode cX7_isClean 0 = .ok (.iconst 0, 1) := by decide +kernel
theorem dX7_isClean_1 : decode cX7_isClean 1 = .ok (.istore_n 1, 1) := by decide +kernel
theorem dX7_isClean_2 : decode cX7_isClean 2 = .ok (.iload_n 1, 1) := by decide +kernel
theorem dX7_isClean_3 : decode cX7_isClean 3 = .ok (.aload_n 0, 1) := by decide +kernel
theorem dX7_isClean_4 : decode cX7_isClean 4 = .ok (.invokevirtual 232, 3) := by decide +kernel
theorem dX7_isClean_7 : decode cX7_isClean 7 = .ok (.if_icmp .ge 38, 3) := by decide +kernel
theorem dX7_isClean_10 : decode cX7_isClean 10 = .ok (.aload_n 0, 1) := by decide +kernel
theorem dX7_isClean_11 : decode cX7_isClean 11 = .ok (.getfield 51, 3) := by decide +kernel
theorem dX7_isClean_14 : decode cX7_isClean 14 = .ok (.iconst 0, 1) := by decide +kernel
theorem dX7_isClean_15 : decode cX7_isClean 15 = .ok (.iload_n 1, 1) := by decide +kernel
theorem dX7_isClean_16 : decode cX7_isClean 16 = .ok (.iadd, 1) := by decide +kernel
theorem dX7_isClean_17 : decode cX7_isClean 17 = .ok (.iaload, 1) := by decide +kernel
theorem dX7_isClean_18 : decode cX7_isClean 18 = .ok (.ifCond .le 21, 3) := by decide +kernel
theorem dX7_isClean_21 : decode cX7_isClean 21 = .ok (.aload_n 0, 1) := by decide +kernel
theorem dX7_isClean_22 : decode cX7_isClean 22 = .ok (.iload_n 1, 1) := by decide +kernel
theorem dX7_isClean_23 : decode cX7_isClean 23 = .ok (.invokevirtual 323, 3) := by decide +kernel
theorem dX7_isClean_26 : decode cX7_isClean 26 = .ok (.ifCond .eq 11, 3) := by decide +kernel
theorem dX7_isClean_29 : decode cX7_isClean 29 = .ok (.aload_n 0, 1) := by decide +kernel
theorem dX7_isClean_30 : decode cX7_isClean 30 = .ok (.iload_n 1, 1) := by decide +kernel
theorem dX7_isClean_31 : decode cX7_isClean 31 = .ok (.invokevirtual 317, 3) := by decide +kernel
theorem dX7_isClean_34 : decode cX7_isClean 34 = .ok (.ifCond .eq 5, 3) := by decide +kernel
theorem dX7_isClean_37 : decode cX7_isClean 37 = .ok (.iconst 0, 1) := by decide +kernel
theorem dX7_isClean_38 : decode cX7_isClean 38 = .ok (.ireturn, 1) := by decide +kernel
theorem dX7_isClean_39 : decode cX7_isClean 39 = .ok (.iinc 1 1, 3) := by decide +kernel
theorem dX7_isClean_42 : decode cX7_isClean 42 = .ok (.goto (-40), 3) := by decide +kernel
theorem dX7_isClean_45 : decode cX7_isClean 45 = .ok (.aload_n 0, 1) := by decide +kernel
theorem dX7_isClean_46 : decode cX7_isClean 46 = .ok (.invokevirtual 326, 3) := by decide +kernel
theorem dX7_isClean_49 : decode cX7_isClean 49 = .ok (.iconst 0, 1) := by decide +kernel
theorem dX7_isClean_50 : decode cX7_isClean 50 = .ok (.istore_n 1, 1) := by decide +kernel
theorem dX7_isClean_51 : decode cX7_isClean 51 = .ok (.iload_n 1, 1) := by decide +kernel
theorem dX7_isClean_52 : decode cX7_isClean 52 = .ok (.aload_n 0, 1) := by decide +kernel
theorem dX7_isClean_53 : decode cX7_isClean 53 = .ok (.getfield 280, 3) := by decide +kernel
theorem dX7_isClean_56 : decode cX7_isClean 56 = .ok (.if_icmp .ge 19, 3) := by decide +kernel
theorem dX7_isClean_59 : decode cX7_isClean 59 = .ok (.aload_n 0, 1) := by decide +kernel
theorem dX7_isClean_60 : decode cX7_isClean 60 = .ok (.iload_n 1, 1) := by decide +kernel
theorem dX7_isClean_61 : decode cX7_isClean 61 = .ok (.invokevirtual 308, 3) := by decide +kernel
theorem dX7_isClean_64 : decode cX7_isClean 64 = .ok (.ifCond .eq 5, 3) := by decide +kernel
theorem dX7_isClean_67 : decode cX7_isClean 67 = .ok (.iconst 0, 1) := by decide +kernel
theorem dX7_isClean_68 : decode cX7_isClean 68 = .ok (.ireturn, 1) := by decide +kernel
theorem dX7_isClean_69 : decode cX7_isClean 69 = .ok (.iinc 1 1, 3) := by decide +kernel
theorem dX7_isClean_72 : decode cX7_isClean 72 = .ok (.goto (-21), 3) := by decide +kernel
theorem dX7_isClean_75 : decode cX7_isClean 75 = .ok (.iconst 1, 1) := by decide +kernel
theorem dX7_isClean_76 : decode cX7_isClean 76 = .ok (.ireturn, 1) := by decide +kernel
theorem dX7_searches_0 : decode cX7_searches 0 = .ok (.aload_n 0, 1) := by decide +kernel
theorem dX7_searches_1 : decode cX7_searches 1 = .ok (.iconst 0, 1) := by decide +kernel
theorem dX7_searches_2 : decode cX7_searches 2 = .ok (.putfield 329, 3) := by decide +kernel
theorem dX7_searches_5 : decode cX7_searches 5 = .ok (.iload_n 1, 1) := by decide +kernel
theorem dX7_searches_6 : decode cX7_searches 6 = .ok (.ifCond .ne 17, 3) := by decide +kernel
theorem dX7_searches_9 : decode cX7_searches 9 = .ok (.aload_n 0, 1) := by decide +kernel
theorem dX7_searches_10 : decode cX7_searches 10 = .ok (.invokevirtual 332, 3) := by decide +kernel
theorem dX7_searches_13 : decode cX7_searches 13 = .ok (.ifCond .eq 7, 3) := by decide +kernel
theorem dX7_searches_16 : decode cX7_searches 16 = .ok (.iconst 0, 1) := by decide +kernel
theorem dX7_searches_17 : decode cX7_searches 17 = .ok (.goto 5, 3) := by decide +kernel
theorem dX7_searches_20 : decode cX7_searches 20 = .ok (.bipush (-2), 2) := by decide +kernel
theorem dX7_searches_22 : decode cX7_searches 22 = .ok (.ireturn, 1) := by decide +kernel
theorem dX7_searches_23 : decode cX7_searches 23 = .ok (.aload_n 0, 1) := by decide +kernel
theorem dX7_searches_24 : decode cX7_searches 24 = .ok (.iload_n 1, 1) := by decide +kernel
theorem dX7_searches_25 : decode cX7_searches 25 = .ok (.iconst (-1), 1) := by decide +kernel
theorem dX7_searches_26 : decode cX7_searches 26 = .ok (.invokevirtual 336, 3) := by decide +kernel
theorem dX7_searches_29 : decode cX7_searches 29 = .ok (.istore_n 2, 1) := by decide +kernel
theorem dX7_searches_30 : decode cX7_searches 30 = .ok (.iconst 0, 1) := by decide +kernel
theorem dX7_searches_31 : decode cX7_searches 31 = .ok (.istore_n 3, 1) := by decide +kernel
theorem dX7_searches_32 : decode cX7_searches 32 = .ok (.iload_n 3, 1) := by decide +kernel
theorem dX7_searches_33 : decode cX7_searches 33 = .ok (.aload_n 0, 1) := by decide +kernel
theorem dX7_searches_34 : decode cX7_searches 34 = .ok (.invokevirtual 232, 3) := by decide +kernel
theorem dX7_searches_37 : decode cX7_searches 37 = .ok (.if_icmp .ge 27, 3) := by decide +kernel
theorem dX7_searches_40 : decode cX7_searches 40 = .ok (.iload_n 1, 1) := by decide +kernel
theorem dX7_searches_41 : decode cX7_searches 41 = .ok (.iload_n 3, 1) := by decide +kernel
theorem dX7_searches_42 : decode cX7_searches 42 = .ok (.ishr, 1) := by decide +kernel
theorem dX7_searches_43 : decode cX7_searches 43 = .ok (.iconst 1, 1) := by decide +kernel
theorem dX7_searches_44 : decode cX7_searches 44 = .ok (.iand, 1) := by decide +kernel
theorem dX7_searches_45 : decode cX7_searches 45 = .ok (.iconst 1, 1) := by decide +kernel
theorem dX7_searches_46 : decode cX7_searches 46 = .ok (.if_icmp .ne 12, 3) := by decide +kernel
theorem dX7_searches_49 : decode cX7_searches 49 = .ok (.aload_n 0, 1) := by decide +kernel
theorem dX7_searches_50 : decode cX7_searches 50 = .ok (.getfield 51, 3) := by decide +kernel
theorem dX7_searches_53 : decode cX7_searches 53 = .ok (.iconst 0, 1) := by decide +kernel
theorem dX7_searches_54 : decode cX7_searches 54 = .ok (.iload_n 3, 1) := by decide +kernel
theorem dX7_searches_55 : decode cX7_searches 55 = .ok (.iadd, 1) := by decide +kernel
theorem dX7_searches_56 : decode cX7_searches 56 = .ok (.iconst 0, 1) := by decide +kernel
theorem dX7_searches_57 : decode cX7_searches 57 = .ok (.iastore, 1) := by decide +kernel
theorem dX7_searches_58 : decode cX7_searches 58 = .ok (.iinc 3 1, 3) := by decide +kernel
theorem dX7_searches_61 : decode cX7_searches 61 = .ok (.goto (-29), 3) := by decide +kernel
theorem dX7_searches_64 : decode cX7_searches 64 = .ok (.iload_n 2, 1) := by decide +kernel
theorem dX7_searches_65 : decode cX7_searches 65 = .ok (.iconst (-1), 1) := by decide +kernel
theorem dX7_searches_66 : decode cX7_searches 66 = .ok (.if_icmp .eq 61, 3) := by decide +kernel
theorem dX7_searches_69 : decode cX7_searches 69 = .ok (.iload_n 2, 1) := by decide +kernel
theorem dX7_searches_70 : decode cX7_searches 70 = .ok (.bipush 6, 2) := by decide +kernel
theorem dX7_searches_72 : decode cX7_searches 72 = .ok (.if_icmp .ge 55, 3) := by decide +kernel
theorem dX7_searches_75 : decode cX7_searches 75 = .ok (.aload_n 0, 1) := by decide +kernel
theorem dX7_searches_76 : decode cX7_searches 76 = .ok (.iload_n 2, 1) := by decide +kernel
theorem dX7_searches_77 : decode cX7_searches 77 = .ok (.invokevirtual 339, 3) := by decide +kernel
theorem dX7_searches_80 : decode cX7_searches 80 = .ok (.istore_n 3, 1) := by decide +kernel
theorem dX7_searches_81 : decode cX7_searches 81 = .ok (.iload_n 3, 1) := by decide +kernel
theorem dX7_searches_82 : decode cX7_searches 82 = .ok (.bipush (-3), 2) := by decide +kernel
theorem dX7_searches_84 : decode cX7_searches 84 = .ok (.if_icmp .ne 11, 3) := by decide +kernel
theorem dX7_searches_87 : decode cX7_searches 87 = .ok (.aload_n 0, 1) := by decide +kernel
theorem dX7_searches_88 : decode cX7_searches 88 = .ok (.iload_n 1, 1) := by decide +kernel
theorem dX7_searches_89 : decode cX7_searches 89 = .ok (.invokevirtual 342, 3) := by decide +kernel
theorem dX7_searches_92 : decode cX7_searches 92 = .ok (.bipush (-3), 2) := by decide +kernel
theorem dX7_searches_94 : decode cX7_searches 94 = .ok (.ireturn, 1) := by decide +kernel
theorem dX7_searches_95 : decode cX7_searches 95 = .ok (.aload_n 0, 1) := by decide +kernel
theorem dX7_searches_96 : decode cX7_searches 96 = .ok (.getfield 51, 3) := by decide +kernel
theorem dX7_searches_99 : decode cX7_searches 99 = .ok (.iconst 0, 1) := by decide +kernel
theorem dX7_searches_100 : decode cX7_searches 100 = .ok (.iload_n 2, 1) := by decide +kernel
theorem dX7_searches_101 : decode cX7_searches 101 = .ok (.iadd, 1) := by decide +kernel
theorem dX7_searches_102 : decode cX7_searches 102 = .ok (.iload_n 3, 1) := by decide +kernel
theorem dX7_searches_103 : decode cX7_searches 103 = .ok (.iastore, 1) := by decide +kernel
theorem dX7_searches_104 : decode cX7_searches 104 = .ok (.iload_n 3, 1) := by decide +kernel
theorem dX7_searches_105 : decode cX7_searches 105 = .ok (.ifCond .ne 12, 3) := by decide +kernel
theorem dX7_searches_108 : decode cX7_searches 108 = .ok (.aload_n 0, 1) := by decide +kernel
theorem dX7_searches_109 : decode cX7_searches 109 = .ok (.iload_n 1, 1) := by decide +kernel
theorem dX7_searches_110 : decode cX7_searches 110 = .ok (.iload_n 2, 1) := by decide +kernel
theorem dX7_searches_111 : decode cX7_searches 111 = .ok (.invokevirtual 345, 3) := by decide +kernel
theorem dX7_searches_114 : decode cX7_searches 114 = .ok (.goto 9, 3) := by decide +kernel
theorem dX7_searches_117 : decode cX7_searches 117 = .ok (.aload_n 0, 1) := by decide +kernel
theorem dX7_searches_118 : decode cX7_searches 118 = .ok (.iload_n 1, 1) := by decide +kernel
theorem dX7_searches_119 : decode cX7_searches 119 = .ok (.iload_n 2, 1) := by decide +kernel
theorem dX7_searches_120 : decode cX7_searches 120 = .ok (.invokevirtual 336, 3) := by decide +kernel
theorem dX7_searches_123 : decode cX7_searches 123 = .ok (.istore_n 2, 1) := by decide +kernel
theorem dX7_searches_124 : decode cX7_searches 124 = .ok (.goto (-60), 3) := by decide +kernel
theorem dX7_searches_127 : decode cX7_searches 127 = .ok (.iload_n 2, 1) := by decide +kernel
theorem dX7_searches_128 : decode cX7_searches 128 = .ok (.iconst (-1), 1) := by decide +kernel
theorem dX7_searches_129 : decode cX7_searches 129 = .ok (.if_icmp .ne 8, 3) := by decide +kernel
theorem dX7_searches_132 : decode cX7_searches 132 = .ok (.bipush (-2), 2) := by decide +kernel
theorem dX7_searches_134 : decode cX7_searches 134 = .ok (.goto 7, 3) := by decide +kernel
theorem dX7_searches_137 : decode cX7_searches 137 = .ok (.aload_n 0, 1) := by decide +kernel
theorem dX7_searches_138 : decode cX7_searches 138 = .ok (.getfield 329, 3) := by decide +kernel
theorem dX7_searches_141 : decode cX7_searches 141 = .ok (.ireturn, 1) := by decide +kernel
theorem dX7_clears_0 : decode cX7_clears 0 = .ok (.iconst 0, 1) := by decide +kernel
theorem dX7_clears_1 : decode cX7_clears 1 = .ok (.istore_n 2, 1) := by decide +kernel
theorem dX7_clears_2 : decode cX7_clears 2 = .ok (.iload_n 2, 1) := by decide +kernel
theorem dX7_clears_3 : decode cX7_clears 3 = .ok (.aload_n 0, 1) := by decide +kernel
theorem dX7_clears_4 : decode cX7_clears 4 = .ok (.invokevirtual 232, 3) := by decide +kernel
theorem dX7_clears_7 : decode cX7_clears 7 = .ok (.if_icmp .ge 27, 3) := by decide +kernel
theorem dX7_clears_10 : decode cX7_clears 10 = .ok (.iload_n 1, 1) := by decide +kernel
theorem dX7_clears_11 : decode cX7_clears 11 = .ok (.iload_n 2, 1) := by decide +kernel
theorem dX7_clears_12 : decode cX7_clears 12 = .ok (.ishr, 1) := by decide +kernel
theorem dX7_clears_13 : decode cX7_clears 13 = .ok (.iconst 1, 1) := by decide +kernel
theorem dX7_clears_14 : decode cX7_clears 14 = .ok (.iand, 1) := by decide +kernel
theorem dX7_clears_15 : decode cX7_clears 15 = .ok (.iconst 1, 1) := by decide +kernel
theorem dX7_clears_16 : decode cX7_clears 16 = .ok (.if_icmp .ne 12, 3) := by decide +kernel
theorem dX7_clears_19 : decode cX7_clears 19 = .ok (.aload_n 0, 1) := by decide +kernel
theorem dX7_clears_20 : decode cX7_clears 20 = .ok (.getfield 51, 3) := by decide +kernel
theorem dX7_clears_23 : decode cX7_clears 23 = .ok (.iconst 0, 1) := by decide +kernel
theorem dX7_clears_24 : decode cX7_clears 24 = .ok (.iload_n 2, 1) := by decide +kernel
theorem dX7_clears_25 : decode cX7_clears 25 = .ok (.iadd, 1) := by decide +kernel
theorem dX7_clears_26 : decode cX7_clears 26 = .ok (.iconst 0, 1) := by decide +kernel
theorem dX7_clears_27 : decode cX7_clears 27 = .ok (.iastore, 1) := by decide +kernel
theorem dX7_clears_28 : decode cX7_clears 28 = .ok (.iinc 2 1, 3) := by decide +kernel
theorem dX7_clears_31 : decode cX7_clears 31 = .ok (.goto (-29), 3) := by decide +kernel
theorem dX7_clears_34 : decode cX7_clears 34 = .ok (.return_, 1) := by decide +kernel
theorem dX7_nextOf_0 : decode cX7_nextOf 0 = .ok (.iload_n 2, 1) := by decide +kernel
theorem dX7_nextOf_1 : decode cX7_nextOf 1 = .ok (.iconst 1, 1) := by decide +kernel
theorem dX7_nextOf_2 : decode cX7_nextOf 2 = .ok (.iadd, 1) := by decide +kernel
theorem dX7_nextOf_3 : decode cX7_nextOf 3 = .ok (.istore_n 3, 1) := by decide +kernel
theorem dX7_nextOf_4 : decode cX7_nextOf 4 = .ok (.iload_n 3, 1) := by decide +kernel
theorem dX7_nextOf_5 : decode cX7_nextOf 5 = .ok (.bipush 6, 2) := by decide +kernel
theorem dX7_nextOf_7 : decode cX7_nextOf 7 = .ok (.if_icmp .ge 17, 3) := by decide +kernel
theorem dX7_nextOf_10 : decode cX7_nextOf 10 = .ok (.iload_n 1, 1) := by decide +kernel
theorem dX7_nextOf_11 : decode cX7_nextOf 11 = .ok (.iload_n 3, 1) := by decide +kernel
theorem dX7_nextOf_12 : decode cX7_nextOf 12 = .ok (.ishr, 1) := by decide +kernel
theorem dX7_nextOf_13 : decode cX7_nextOf 13 = .ok (.iconst 1, 1) := by decide +kernel
theorem dX7_nextOf_14 : decode cX7_nextOf 14 = .ok (.iand, 1) := by decide +kernel
theorem dX7_nextOf_15 : decode cX7_nextOf 15 = .ok (.ifCond .ne 9, 3) := by decide +kernel
theorem dX7_nextOf_18 : decode cX7_nextOf 18 = .ok (.iinc 3 1, 3) := by decide +kernel
theorem dX7_nextOf_21 : decode cX7_nextOf 21 = .ok (.goto (-17), 3) := by decide +kernel
theorem dX7_nextOf_24 : decode cX7_nextOf 24 = .ok (.iload_n 3, 1) := by decide +kernel
theorem dX7_nextOf_25 : decode cX7_nextOf 25 = .ok (.ireturn, 1) := by decide +kernel
theorem dX7_aheadOf_0 : decode cX7_aheadOf 0 = .ok (.iload_n 2, 1) := by decide +kernel
theorem dX7_aheadOf_1 : decode cX7_aheadOf 1 = .ok (.iconst 1, 1) := by decide +kernel
theorem dX7_aheadOf_2 : decode cX7_aheadOf 2 = .ok (.isub, 1) := by decide +kernel
theorem dX7_aheadOf_3 : decode cX7_aheadOf 3 = .ok (.istore_n 3, 1) := by decide +kernel
theorem dX7_aheadOf_4 : decode cX7_aheadOf 4 = .ok (.iload_n 3, 1) := by decide +kernel
theorem dX7_aheadOf_5 : decode cX7_aheadOf 5 = .ok (.ifCond .lt 17, 3) := by decide +kernel
theorem dX7_aheadOf_8 : decode cX7_aheadOf 8 = .ok (.iload_n 1, 1) := by decide +kernel
theorem dX7_aheadOf_9 : decode cX7_aheadOf 9 = .ok (.iload_n 3, 1) := by decide +kernel
theorem dX7_aheadOf_10 : decode cX7_aheadOf 10 = .ok (.ishr, 1) := by decide +kernel
theorem dX7_aheadOf_11 : decode cX7_aheadOf 11 = .ok (.iconst 1, 1) := by decide +kernel
theorem dX7_aheadOf_12 : decode cX7_aheadOf 12 = .ok (.iand, 1) := by decide +kernel
theorem dX7_aheadOf_13 : decode cX7_aheadOf 13 = .ok (.ifCond .ne 9, 3) := by decide +kernel
theorem dX7_aheadOf_16 : decode cX7_aheadOf 16 = .ok (.iinc 3 (-1), 3) := by decide +kernel
theorem dX7_aheadOf_19 : decode cX7_aheadOf 19 = .ok (.goto (-15), 3) := by decide +kernel
theorem dX7_aheadOf_22 : decode cX7_aheadOf 22 = .ok (.iload_n 3, 1) := by decide +kernel
theorem dX7_aheadOf_23 : decode cX7_aheadOf 23 = .ok (.ireturn, 1) := by decide +kernel
theorem dX7_nextFit_0 : decode cX7_nextFit 0 = .ok (.aload_n 0, 1) := by decide +kernel
theorem dX7_nextFit_1 : decode cX7_nextFit 1 = .ok (.getfield 51, 3) := by decide +kernel
theorem dX7_nextFit_4 : decode cX7_nextFit 4 = .ok (.iconst 0, 1) := by decide +kernel
theorem dX7_nextFit_5 : decode cX7_nextFit 5 = .ok (.iload_n 1, 1) := by decide +kernel
theorem dX7_nextFit_6 : decode cX7_nextFit 6 = .ok (.iadd, 1) := by decide +kernel
theorem dX7_nextFit_7 : decode cX7_nextFit 7 = .ok (.iaload, 1) := by decide +kernel
theorem dX7_nextFit_8 : decode cX7_nextFit 8 = .ok (.ifCond .ne 12, 3) := by decide +kernel
theorem dX7_nextFit_11 : decode cX7_nextFit 11 = .ok (.aload_n 0, 1) := by decide +kernel
theorem dX7_nextFit_12 : decode cX7_nextFit 12 = .ok (.getfield 29, 3) := by decide +kernel
theorem dX7_nextFit_15 : decode cX7_nextFit 15 = .ok (.iload_n 1, 1) := by decide +kernel
theorem dX7_nextFit_16 : decode cX7_nextFit 16 = .ok (.iaload, 1) := by decide +kernel
theorem dX7_nextFit_17 : decode cX7_nextFit 17 = .ok (.goto 13, 3) := by decide +kernel
theorem dX7_nextFit_20 : decode cX7_nextFit 20 = .ok (.aload_n 0, 1) := by decide +kernel
theorem dX7_nextFit_21 : decode cX7_nextFit 21 = .ok (.getfield 51, 3) := by decide +kernel
theorem dX7_nextFit_24 : decode cX7_nextFit 24 = .ok (.iconst 0, 1) := by decide +kernel
theorem dX7_nextFit_25 : decode cX7_nextFit 25 = .ok (.iload_n 1, 1) := by decide +kernel
theorem dX7_nextFit_26 : decode cX7_nextFit 26 = .ok (.iadd, 1) := by decide +kernel
theorem dX7_nextFit_27 : decode cX7_nextFit 27 = .ok (.iaload, 1) := by decide +kernel
theorem dX7_nextFit_28 : decode cX7_nextFit 28 = .ok (.iconst 1, 1) := by decide +kernel
theorem dX7_nextFit_29 : decode cX7_nextFit 29 = .ok (.iadd, 1) := by decide +kernel
theorem dX7_nextFit_30 : decode cX7_nextFit 30 = .ok (.istore_n 2, 1) := by decide +kernel
theorem dX7_nextFit_31 : decode cX7_nextFit 31 = .ok (.iload_n 2, 1) := by decide +kernel
theorem dX7_nextFit_32 : decode cX7_nextFit 32 = .ok (.istore_n 3, 1) := by decide +kernel
theorem dX7_nextFit_33 : decode cX7_nextFit 33 = .ok (.iload_n 3, 1) := by decide +kernel
theorem dX7_nextFit_34 : decode cX7_nextFit 34 = .ok (.aload_n 0, 1) := by decide +kernel
theorem dX7_nextFit_35 : decode cX7_nextFit 35 = .ok (.iload_n 1, 1) := by decide +kernel
theorem dX7_nextFit_36 : decode cX7_nextFit 36 = .ok (.invokevirtual 320, 3) := by decide +kernel
theorem dX7_nextFit_39 : decode cX7_nextFit 39 = .ok (.if_icmp .gt 50, 3) := by decide +kernel
theorem dX7_nextFit_42 : decode cX7_nextFit 42 = .ok (.aload_n 0, 1) := by decide +kernel
theorem dX7_nextFit_43 : decode cX7_nextFit 43 = .ok (.getfield 329, 3) := by decide +kernel
theorem dX7_nextFit_46 : decode cX7_nextFit 46 = .ok (.sipush 600, 3) := by decide +kernel
theorem dX7_nextFit_49 : decode cX7_nextFit 49 = .ok (.if_icmp .ne 6, 3) := by decide +kernel
theorem dX7_nextFit_52 : decode cX7_nextFit 52 = .ok (.bipush (-3), 2) := by decide +kernel
theorem dX7_nextFit_54 : decode cX7_nextFit 54 = .ok (.ireturn, 1) := by decide +kernel
theorem dX7_nextFit_55 : decode cX7_nextFit 55 = .ok (.aload_n 0, 1) := by decide +kernel
theorem dX7_nextFit_56 : decode cX7_nextFit 56 = .ok (.dup, 1) := by decide +kernel
theorem dX7_nextFit_57 : decode cX7_nextFit 57 = .ok (.getfield 329, 3) := by decide +kernel
theorem dX7_nextFit_60 : decode cX7_nextFit 60 = .ok (.iconst 1, 1) := by decide +kernel
theorem dX7_nextFit_61 : decode cX7_nextFit 61 = .ok (.iadd, 1) := by decide +kernel
theorem dX7_nextFit_62 : decode cX7_nextFit 62 = .ok (.putfield 329, 3) := by decide +kernel
theorem dX7_nextFit_65 : decode cX7_nextFit 65 = .ok (.aload_n 0, 1) := by decide +kernel
theorem dX7_nextFit_66 : decode cX7_nextFit 66 = .ok (.getfield 51, 3) := by decide +kernel
theorem dX7_nextFit_69 : decode cX7_nextFit 69 = .ok (.iconst 0, 1) := by decide +kernel
theorem dX7_nextFit_70 : decode cX7_nextFit 70 = .ok (.iload_n 1, 1) := by decide +kernel
theorem dX7_nextFit_71 : decode cX7_nextFit 71 = .ok (.iadd, 1) := by decide +kernel
theorem dX7_nextFit_72 : decode cX7_nextFit 72 = .ok (.iload_n 3, 1) := by decide +kernel
theorem dX7_nextFit_73 : decode cX7_nextFit 73 = .ok (.iastore, 1) := by decide +kernel
theorem dX7_nextFit_74 : decode cX7_nextFit 74 = .ok (.aload_n 0, 1) := by decide +kernel
theorem dX7_nextFit_75 : decode cX7_nextFit 75 = .ok (.invokevirtual 332, 3) := by decide +kernel
theorem dX7_nextFit_78 : decode cX7_nextFit 78 = .ok (.ifCond .eq 5, 3) := by decide +kernel
theorem dX7_nextFit_81 : decode cX7_nextFit 81 = .ok (.iload_n 3, 1) := by decide +kernel
theorem dX7_nextFit_82 : decode cX7_nextFit 82 = .ok (.ireturn, 1) := by decide +kernel
theorem dX7_nextFit_83 : decode cX7_nextFit 83 = .ok (.iinc 3 1, 3) := by decide +kernel
theorem dX7_nextFit_86 : decode cX7_nextFit 86 = .ok (.goto (-53), 3) := by decide +kernel
theorem dX7_nextFit_89 : decode cX7_nextFit 89 = .ok (.iconst 0, 1) := by decide +kernel
theorem dX7_nextFit_90 : decode cX7_nextFit 90 = .ok (.ireturn, 1) := by decide +kernel
theorem dX7_withoutChannels_0 : decode cX7_withoutChannels 0 = .ok (.iconst 0, 1) := by decide +kernel
theorem dX7_withoutChannels_1 : decode cX7_withoutChannels 1 = .ok (.istore_n 1, 1) := by decide +kernel
theorem dX7_withoutChannels_2 : decode cX7_withoutChannels 2 = .ok (.iconst 0, 1) := by decide +kernel
theorem dX7_withoutChannels_3 : decode cX7_withoutChannels 3 = .ok (.istore_n 2, 1) := by decide +kernel
theorem dX7_withoutChannels_4 : decode cX7_withoutChannels 4 = .ok (.iload_n 2, 1) := by decide +kernel
theorem dX7_withoutChannels_5 : decode cX7_withoutChannels 5 = .ok (.aload_n 0, 1) := by decide +kernel
theorem dX7_withoutChannels_6 : decode cX7_withoutChannels 6 = .ok (.invokevirtual 232, 3) := by decide +kernel
theorem dX7_withoutChannels_9 : decode cX7_withoutChannels 9 = .ok (.if_icmp .ge 26, 3) := by decide +kernel
theorem dX7_withoutChannels_12 : decode cX7_withoutChannels 12 = .ok (.aload_n 0, 1) := by decide +kernel
theorem dX7_withoutChannels_13 : decode cX7_withoutChannels 13 = .ok (.getfield 51, 3) := by decide +kernel
theorem dX7_withoutChannels_16 : decode cX7_withoutChannels 16 = .ok (.iconst 0, 1) := by decide +kernel
theorem dX7_withoutChannels_17 : decode cX7_withoutChannels 17 = .ok (.iload_n 2, 1) := by decide +kernel
theorem dX7_withoutChannels_18 : decode cX7_withoutChannels 18 = .ok (.iadd, 1) := by decide +kernel
theorem dX7_withoutChannels_19 : decode cX7_withoutChannels 19 = .ok (.iaload, 1) := by decide +kernel
theorem dX7_withoutChannels_20 : decode cX7_withoutChannels 20 = .ok (.ifCond .ne 9, 3) := by decide +kernel
theorem dX7_withoutChannels_23 : decode cX7_withoutChannels 23 = .ok (.iload_n 1, 1) := by decide +kernel
theorem dX7_withoutChannels_24 : decode cX7_withoutChannels 24 = .ok (.iconst 1, 1) := by decide +kernel
theorem dX7_withoutChannels_25 : decode cX7_withoutChannels 25 = .ok (.iload_n 2, 1) := by decide +kernel
theorem dX7_withoutChannels_26 : decode cX7_withoutChannels 26 = .ok (.ishl, 1) := by decide +kernel
theorem dX7_withoutChannels_27 : decode cX7_withoutChannels 27 = .ok (.ior, 1) := by decide +kernel
theorem dX7_withoutChannels_28 : decode cX7_withoutChannels 28 = .ok (.istore_n 1, 1) := by decide +kernel
theorem dX7_withoutChannels_29 : decode cX7_withoutChannels 29 = .ok (.iinc 2 1, 3) := by decide +kernel
theorem dX7_withoutChannels_32 : decode cX7_withoutChannels 32 = .ok (.goto (-28), 3) := by decide +kernel
theorem dX7_withoutChannels_35 : decode cX7_withoutChannels 35 = .ok (.iload_n 1, 1) := by decide +kernel
theorem dX7_withoutChannels_36 : decode cX7_withoutChannels 36 = .ok (.ireturn, 1) := by decide +kernel
theorem dX7_complete_0 : decode cX7_complete 0 = .ok (.aload_n 0, 1) := by decide +kernel
theorem dX7_complete_1 : decode cX7_complete 1 = .ok (.iconst 0, 1) := by decide +kernel
theorem dX7_complete_2 : decode cX7_complete 2 = .ok (.putfield 96, 3) := by decide +kernel
theorem dX7_complete_5 : decode cX7_complete 5 = .ok (.aload_n 0, 1) := by decide +kernel
theorem dX7_complete_6 : decode cX7_complete 6 = .ok (.invokevirtual 348, 3) := by decide +kernel
theorem dX7_complete_9 : decode cX7_complete 9 = .ok (.aload_n 0, 1) := by decide +kernel
theorem dX7_complete_10 : decode cX7_complete 10 = .ok (.aload_n 0, 1) := by decide +kernel
theorem dX7_complete_11 : decode cX7_complete 11 = .ok (.invokevirtual 351, 3) := by decide +kernel
theorem dX7_complete_14 : decode cX7_complete 14 = .ok (.invokevirtual 354, 3) := by decide +kernel
theorem dX7_complete_17 : decode cX7_complete 17 = .ok (.istore_n 1, 1) := by decide +kernel
theorem dX7_complete_18 : decode cX7_complete 18 = .ok (.iload_n 1, 1) := by decide +kernel
theorem dX7_complete_19 : decode cX7_complete 19 = .ok (.ifCond .gt 9, 3) := by decide +kernel
theorem dX7_complete_22 : decode cX7_complete 22 = .ok (.aload_n 0, 1) := by decide +kernel
theorem dX7_complete_23 : decode cX7_complete 23 = .ok (.invokevirtual 357, 3) := by decide +kernel
theorem dX7_complete_26 : decode cX7_complete 26 = .ok (.iload_n 1, 1) := by decide +kernel
theorem dX7_complete_27 : decode cX7_complete 27 = .ok (.ireturn, 1) := by decide +kernel
theorem dX7_complete_28 : decode cX7_complete 28 = .ok (.aload_n 0, 1) := by decide +kernel
theorem dX7_complete_29 : decode cX7_complete 29 = .ok (.invokevirtual 360, 3) := by decide +kernel
theorem dX7_complete_32 : decode cX7_complete 32 = .ok (.iload_n 1, 1) := by decide +kernel
theorem dX7_complete_33 : decode cX7_complete 33 = .ok (.ireturn, 1) := by decide +kernel
theorem dX7_swapsIn_0 : decode cX7_swapsIn 0 = .ok (.iconst 0, 1) := by decide +kernel
theorem dX7_swapsIn_1 : decode cX7_swapsIn 1 = .ok (.istore_n 1, 1) := by decide +kernel
theorem dX7_swapsIn_2 : decode cX7_swapsIn 2 = .ok (.iload_n 1, 1) := by decide +kernel
theorem dX7_swapsIn_3 : decode cX7_swapsIn 3 = .ok (.bipush 79, 2) := by decide +kernel
theorem dX7_swapsIn_5 : decode cX7_swapsIn 5 = .ok (.if_icmp .ge 35, 3) := by decide +kernel
theorem dX7_swapsIn_8 : decode cX7_swapsIn 8 = .ok (.aload_n 0, 1) := by decide +kernel
theorem dX7_swapsIn_9 : decode cX7_swapsIn 9 = .ok (.getfield 51, 3) := by decide +kernel
theorem dX7_swapsIn_12 : decode cX7_swapsIn 12 = .ok (.iload_n 1, 1) := by decide +kernel
theorem dX7_swapsIn_13 : decode cX7_swapsIn 13 = .ok (.iaload, 1) := by decide +kernel
theorem dX7_swapsIn_14 : decode cX7_swapsIn 14 = .ok (.istore_n 2, 1) := by decide +kernel
theorem dX7_swapsIn_15 : decode cX7_swapsIn 15 = .ok (.aload_n 0, 1) := by decide +kernel
theorem dX7_swapsIn_16 : decode cX7_swapsIn 16 = .ok (.getfield 51, 3) := by decide +kernel
theorem dX7_swapsIn_19 : decode cX7_swapsIn 19 = .ok (.iload_n 1, 1) := by decide +kernel
theorem dX7_swapsIn_20 : decode cX7_swapsIn 20 = .ok (.aload_n 0, 1) := by decide +kernel
theorem dX7_swapsIn_21 : decode cX7_swapsIn 21 = .ok (.getfield 57, 3) := by decide +kernel
theorem dX7_swapsIn_24 : decode cX7_swapsIn 24 = .ok (.iload_n 1, 1) := by decide +kernel
theorem dX7_swapsIn_25 : decode cX7_swapsIn 25 = .ok (.iaload, 1) := by decide +kernel
theorem dX7_swapsIn_26 : decode cX7_swapsIn 26 = .ok (.iastore, 1) := by decide +kernel
theorem dX7_swapsIn_27 : decode cX7_swapsIn 27 = .ok (.aload_n 0, 1) := by decide +kernel
theorem dX7_swapsIn_28 : decode cX7_swapsIn 28 = .ok (.getfield 57, 3) := by decide +kernel
theorem dX7_swapsIn_31 : decode cX7_swapsIn 31 = .ok (.iload_n 1, 1) := by decide +kernel
theorem dX7_swapsIn_32 : decode cX7_swapsIn 32 = .ok (.iload_n 2, 1) := by decide +kernel
theorem dX7_swapsIn_33 : decode cX7_swapsIn 33 = .ok (.iastore, 1) := by decide +kernel
theorem dX7_swapsIn_34 : decode cX7_swapsIn 34 = .ok (.iinc 1 1, 3) := by decide +kernel
theorem dX7_swapsIn_37 : decode cX7_swapsIn 37 = .ok (.goto (-35), 3) := by decide +kernel
theorem dX7_swapsIn_40 : decode cX7_swapsIn 40 = .ok (.aload_n 0, 1) := by decide +kernel
theorem dX7_swapsIn_41 : decode cX7_swapsIn 41 = .ok (.invokevirtual 265, 3) := by decide +kernel
theorem dX7_swapsIn_44 : decode cX7_swapsIn 44 = .ok (.aload_n 0, 1) := by decide +kernel
theorem dX7_swapsIn_45 : decode cX7_swapsIn 45 = .ok (.invokevirtual 357, 3) := by decide +kernel
theorem dX7_swapsIn_48 : decode cX7_swapsIn 48 = .ok (.return_, 1) := by decide +kernel
theorem dX7_mends_0 : decode cX7_mends 0 = .ok (.aload_n 0, 1) := by decide +kernel
theorem dX7_mends_1 : decode cX7_mends 1 = .ok (.invokevirtual 348, 3) := by decide +kernel
theorem dX7_mends_4 : decode cX7_mends 4 = .ok (.iconst 1, 1) := by decide +kernel
theorem dX7_mends_5 : decode cX7_mends 5 = .ok (.aload_n 0, 1) := by decide +kernel
theorem dX7_mends_6 : decode cX7_mends 6 = .ok (.invokevirtual 232, 3) := by decide +kernel
theorem dX7_mends_9 : decode cX7_mends 9 = .ok (.ishl, 1) := by decide +kernel
theorem dX7_mends_10 : decode cX7_mends 10 = .ok (.iconst 1, 1) := by decide +kernel
theorem dX7_mends_11 : decode cX7_mends 11 = .ok (.isub, 1) := by decide +kernel
theorem dX7_mends_12 : decode cX7_mends 12 = .ok (.aload_n 0, 1) := by decide +kernel
theorem dX7_mends_13 : decode cX7_mends 13 = .ok (.invokevirtual 351, 3) := by decide +kernel
theorem dX7_mends_16 : decode cX7_mends 16 = .ok (.iconst (-1), 1) := by decide +kernel
theorem dX7_mends_17 : decode cX7_mends 17 = .ok (.ixor, 1) := by decide +kernel
theorem dX7_mends_18 : decode cX7_mends 18 = .ok (.iand, 1) := by decide +kernel
theorem dX7_mends_19 : decode cX7_mends 19 = .ok (.istore_n 1, 1) := by decide +kernel
theorem dX7_mends_20 : decode cX7_mends 20 = .ok (.iconst 0, 1) := by decide +kernel
theorem dX7_mends_21 : decode cX7_mends 21 = .ok (.istore_n 2, 1) := by decide +kernel
theorem dX7_mends_22 : decode cX7_mends 22 = .ok (.iload_n 2, 1) := by decide +kernel
theorem dX7_mends_23 : decode cX7_mends 23 = .ok (.aload_n 0, 1) := by decide +kernel
theorem dX7_mends_24 : decode cX7_mends 24 = .ok (.invokevirtual 232, 3) := by decide +kernel
theorem dX7_mends_27 : decode cX7_mends 27 = .ok (.if_icmp .gt 55, 3) := by decide +kernel
theorem dX7_mends_30 : decode cX7_mends 30 = .ok (.iconst 0, 1) := by decide +kernel
theorem dX7_mends_31 : decode cX7_mends 31 = .ok (.istore_n 3, 1) := by decide +kernel
theorem dX7_mends_32 : decode cX7_mends 32 = .ok (.iload_n 3, 1) := by decide +kernel
theorem dX7_mends_33 : decode cX7_mends 33 = .ok (.iload_n 1, 1) := by decide +kernel
theorem dX7_mends_34 : decode cX7_mends 34 = .ok (.if_icmp .gt 42, 3) := by decide +kernel
theorem dX7_mends_37 : decode cX7_mends 37 = .ok (.iload_n 3, 1) := by decide +kernel
theorem dX7_mends_38 : decode cX7_mends 38 = .ok (.iload_n 1, 1) := by decide +kernel
theorem dX7_mends_39 : decode cX7_mends 39 = .ok (.iconst (-1), 1) := by decide +kernel
theorem dX7_mends_40 : decode cX7_mends 40 = .ok (.ixor, 1) := by decide +kernel
theorem dX7_mends_41 : decode cX7_mends 41 = .ok (.iand, 1) := by decide +kernel
theorem dX7_mends_42 : decode cX7_mends 42 = .ok (.ifCond .ne 28, 3) := by decide +kernel
theorem dX7_mends_45 : decode cX7_mends 45 = .ok (.iload_n 3, 1) := by decide +kernel
theorem dX7_mends_46 : decode cX7_mends 46 = .ok (.invokestatic 311, 3) := by decide +kernel
theorem dX7_mends_49 : decode cX7_mends 49 = .ok (.iload_n 2, 1) := by decide +kernel
theorem dX7_mends_50 : decode cX7_mends 50 = .ok (.if_icmp .eq 6, 3) := by decide +kernel
theorem dX7_mends_53 : decode cX7_mends 53 = .ok (.goto 17, 3) := by decide +kernel
theorem dX7_mends_56 : decode cX7_mends 56 = .ok (.aload_n 0, 1) := by decide +kernel
theorem dX7_mends_57 : decode cX7_mends 57 = .ok (.iload_n 3, 1) := by decide +kernel
theorem dX7_mends_58 : decode cX7_mends 58 = .ok (.invokevirtual 354, 3) := by decide +kernel
theorem dX7_mends_61 : decode cX7_mends 61 = .ok (.ifCond .lt 5, 3) := by decide +kernel
theorem dX7_mends_64 : decode cX7_mends 64 = .ok (.iload_n 3, 1) := by decide +kernel
theorem dX7_mends_65 : decode cX7_mends 65 = .ok (.ireturn, 1) := by decide +kernel
theorem dX7_mends_66 : decode cX7_mends 66 = .ok (.aload_n 0, 1) := by decide +kernel
theorem dX7_mends_67 : decode cX7_mends 67 = .ok (.invokevirtual 357, 3) := by decide +kernel
theorem dX7_mends_70 : decode cX7_mends 70 = .ok (.iinc 3 1, 3) := by decide +kernel
theorem dX7_mends_73 : decode cX7_mends 73 = .ok (.goto (-41), 3) := by decide +kernel
theorem dX7_mends_76 : decode cX7_mends 76 = .ok (.iinc 2 1, 3) := by decide +kernel
theorem dX7_mends_79 : decode cX7_mends 79 = .ok (.goto (-57), 3) := by decide +kernel
theorem dX7_mends_82 : decode cX7_mends 82 = .ok (.bipush (-2), 2) := by decide +kernel
theorem dX7_mends_84 : decode cX7_mends 84 = .ok (.ireturn, 1) := by decide +kernel
theorem dX7_mend_0 : decode cX7_mend 0 = .ok (.aload_n 0, 1) := by decide +kernel
theorem dX7_mend_1 : decode cX7_mend 1 = .ok (.iconst 0, 1) := by decide +kernel
theorem dX7_mend_2 : decode cX7_mend 2 = .ok (.putfield 96, 3) := by decide +kernel
theorem dX7_mend_5 : decode cX7_mend 5 = .ok (.aload_n 0, 1) := by decide +kernel
theorem dX7_mend_6 : decode cX7_mend 6 = .ok (.invokevirtual 363, 3) := by decide +kernel
theorem dX7_mend_9 : decode cX7_mend 9 = .ok (.istore_n 1, 1) := by decide +kernel
theorem dX7_mend_10 : decode cX7_mend 10 = .ok (.iload_n 1, 1) := by decide +kernel
theorem dX7_mend_11 : decode cX7_mend 11 = .ok (.ifCond .gt 5, 3) := by decide +kernel
theorem dX7_mend_14 : decode cX7_mend 14 = .ok (.iload_n 1, 1) := by decide +kernel
theorem dX7_mend_15 : decode cX7_mend 15 = .ok (.ireturn, 1) := by decide +kernel
theorem dX7_mend_16 : decode cX7_mend 16 = .ok (.aload_n 0, 1) := by decide +kernel
theorem dX7_mend_17 : decode cX7_mend 17 = .ok (.invokevirtual 360, 3) := by decide +kernel
theorem dX7_mend_20 : decode cX7_mend 20 = .ok (.iload_n 1, 1) := by decide +kernel
theorem dX7_mend_21 : decode cX7_mend 21 = .ok (.ireturn, 1) := by decide +kernel
theorem dX7_mended_0 : decode cX7_mended 0 = .ok (.aload_n 0, 1) := by decide +kernel
theorem dX7_mended_1 : decode cX7_mended 1 = .ok (.iconst 0, 1) := by decide +kernel
theorem dX7_mended_2 : decode cX7_mended 2 = .ok (.putfield 96, 3) := by decide +kernel
theorem dX7_mended_5 : decode cX7_mended 5 = .ok (.aload_n 0, 1) := by decide +kernel
theorem dX7_mended_6 : decode cX7_mended 6 = .ok (.invokevirtual 363, 3) := by decide +kernel
theorem dX7_mended_9 : decode cX7_mended 9 = .ok (.istore_n 1, 1) := by decide +kernel
theorem dX7_mended_10 : decode cX7_mended 10 = .ok (.aload_n 0, 1) := by decide +kernel
theorem dX7_mended_11 : decode cX7_mended 11 = .ok (.invokevirtual 357, 3) := by decide +kernel
theorem dX7_mended_14 : decode cX7_mended 14 = .ok (.iload_n 1, 1) := by decide +kernel
theorem dX7_mended_15 : decode cX7_mended 15 = .ok (.ireturn, 1) := by decide +kernel
theorem dX7_planned_0 : decode cX7_planned 0 = .ok (.aload_n 0, 1) := by decide +kernel
theorem dX7_planned_1 : decode cX7_planned 1 = .ok (.iconst 0, 1) := by decide +kernel
theorem dX7_planned_2 : decode cX7_planned 2 = .ok (.putfield 96, 3) := by decide +kernel
theorem dX7_planned_5 : decode cX7_planned 5 = .ok (.aload_n 0, 1) := by decide +kernel
theorem dX7_planned_6 : decode cX7_planned 6 = .ok (.iload_n 1, 1) := by decide +kernel
theorem dX7_planned_7 : decode cX7_planned 7 = .ok (.invokevirtual 259, 3) := by decide +kernel
theorem dX7_planned_10 : decode cX7_planned 10 = .ok (.ifCond .ne 5, 3) := by decide +kernel
theorem dX7_planned_13 : decode cX7_planned 13 = .ok (.iconst (-1), 1) := by decide +kernel
theorem dX7_planned_14 : decode cX7_planned 14 = .ok (.ireturn, 1) := by decide +kernel
theorem dX7_planned_15 : decode cX7_planned 15 = .ok (.aload_n 0, 1) := by decide +kernel
theorem dX7_planned_16 : decode cX7_planned 16 = .ok (.getfield 51, 3) := by decide +kernel
theorem dX7_planned_19 : decode cX7_planned 19 = .ok (.iconst 0, 1) := by decide +kernel
theorem dX7_planned_20 : decode cX7_planned 20 = .ok (.iload_n 1, 1) := by decide +kernel
theorem dX7_planned_21 : decode cX7_planned 21 = .ok (.iadd, 1) := by decide +kernel
theorem dX7_planned_22 : decode cX7_planned 22 = .ok (.iaload, 1) := by decide +kernel
theorem dX7_planned_23 : decode cX7_planned 23 = .ok (.ifCond .le 6, 3) := by decide +kernel
theorem dX7_planned_26 : decode cX7_planned 26 = .ok (.bipush (-2), 2) := by decide +kernel
theorem dX7_planned_28 : decode cX7_planned 28 = .ok (.ireturn, 1) := by decide +kernel
theorem dX7_planned_29 : decode cX7_planned 29 = .ok (.aload_n 0, 1) := by decide +kernel
theorem dX7_planned_30 : decode cX7_planned 30 = .ok (.invokevirtual 348, 3) := by decide +kernel
theorem dX7_planned_33 : decode cX7_planned 33 = .ok (.aload_n 0, 1) := by decide +kernel
theorem dX7_planned_34 : decode cX7_planned 34 = .ok (.aload_n 0, 1) := by decide +kernel
theorem dX7_planned_35 : decode cX7_planned 35 = .ok (.invokevirtual 351, 3) := by decide +kernel
theorem dX7_planned_38 : decode cX7_planned 38 = .ok (.invokevirtual 354, 3) := by decide +kernel
theorem dX7_planned_41 : decode cX7_planned 41 = .ok (.istore_n 2, 1) := by decide +kernel
theorem dX7_planned_42 : decode cX7_planned 42 = .ok (.aload_n 0, 1) := by decide +kernel
theorem dX7_planned_43 : decode cX7_planned 43 = .ok (.getfield 51, 3) := by decide +kernel
theorem dX7_planned_46 : decode cX7_planned 46 = .ok (.iconst 0, 1) := by decide +kernel
theorem dX7_planned_47 : decode cX7_planned 47 = .ok (.iload_n 1, 1) := by decide +kernel
theorem dX7_planned_48 : decode cX7_planned 48 = .ok (.iadd, 1) := by decide +kernel
theorem dX7_planned_49 : decode cX7_planned 49 = .ok (.iaload, 1) := by decide +kernel
theorem dX7_planned_50 : decode cX7_planned 50 = .ok (.istore_n 3, 1) := by decide +kernel
theorem dX7_planned_51 : decode cX7_planned 51 = .ok (.aload_n 0, 1) := by decide +kernel
theorem dX7_planned_52 : decode cX7_planned 52 = .ok (.invokevirtual 357, 3) := by decide +kernel
theorem dX7_planned_55 : decode cX7_planned 55 = .ok (.iload_n 2, 1) := by decide +kernel
theorem dX7_planned_56 : decode cX7_planned 56 = .ok (.ifCond .ge 7, 3) := by decide +kernel
theorem dX7_planned_59 : decode cX7_planned 59 = .ok (.iload_n 2, 1) := by decide +kernel
theorem dX7_planned_60 : decode cX7_planned 60 = .ok (.goto 4, 3) := by decide +kernel
theorem dX7_planned_63 : decode cX7_planned 63 = .ok (.iload_n 3, 1) := by decide +kernel
theorem dX7_planned_64 : decode cX7_planned 64 = .ok (.ireturn, 1) := by decide +kernel
theorem dX7_leastBand_0 : decode cX7_leastBand 0 = .ok (.aload_n 0, 1) := by decide +kernel
theorem dX7_leastBand_1 : decode cX7_leastBand 1 = .ok (.iconst 0, 1) := by decide +kernel
theorem dX7_leastBand_2 : decode cX7_leastBand 2 = .ok (.putfield 96, 3) := by decide +kernel
theorem dX7_leastBand_5 : decode cX7_leastBand 5 = .ok (.aload_n 0, 1) := by decide +kernel
theorem dX7_leastBand_6 : decode cX7_leastBand 6 = .ok (.invokevirtual 348, 3) := by decide +kernel
theorem dX7_leastBand_9 : decode cX7_leastBand 9 = .ok (.bipush (-2), 2) := by decide +kernel
theorem dX7_leastBand_11 : decode cX7_leastBand 11 = .ok (.istore_n 1, 1) := by decide +kernel
theorem dX7_leastBand_12 : decode cX7_leastBand 12 = .ok (.iconst 4, 1) := by decide +kernel
theorem dX7_leastBand_13 : decode cX7_leastBand 13 = .ok (.istore_n 2, 1) := by decide +kernel
theorem dX7_leastBand_14 : decode cX7_leastBand 14 = .ok (.iload_n 2, 1) := by decide +kernel
theorem dX7_leastBand_15 : decode cX7_leastBand 15 = .ok (.bipush 60, 2) := by decide +kernel
theorem dX7_leastBand_17 : decode cX7_leastBand 17 = .ok (.if_icmp .gt 37, 3) := by decide +kernel
theorem dX7_leastBand_20 : decode cX7_leastBand 20 = .ok (.iload_n 1, 1) := by decide +kernel
theorem dX7_leastBand_21 : decode cX7_leastBand 21 = .ok (.bipush (-2), 2) := by decide +kernel
theorem dX7_leastBand_23 : decode cX7_leastBand 23 = .ok (.if_icmp .ne 31, 3) := by decide +kernel
theorem dX7_leastBand_26 : decode cX7_leastBand 26 = .ok (.aload_n 0, 1) := by decide +kernel
theorem dX7_leastBand_27 : decode cX7_leastBand 27 = .ok (.iload_n 2, 1) := by decide +kernel
theorem dX7_leastBand_28 : decode cX7_leastBand 28 = .ok (.putfield 238, 3) := by decide +kernel
theorem dX7_leastBand_31 : decode cX7_leastBand 31 = .ok (.aload_n 0, 1) := by decide +kernel
theorem dX7_leastBand_32 : decode cX7_leastBand 32 = .ok (.iconst 1, 1) := by decide +kernel
theorem dX7_leastBand_33 : decode cX7_leastBand 33 = .ok (.aload_n 0, 1) := by decide +kernel
theorem dX7_leastBand_34 : decode cX7_leastBand 34 = .ok (.invokevirtual 232, 3) := by decide +kernel
theorem dX7_leastBand_37 : decode cX7_leastBand 37 = .ok (.ishl, 1) := by decide +kernel
theorem dX7_leastBand_38 : decode cX7_leastBand 38 = .ok (.iconst 1, 1) := by decide +kernel
theorem dX7_leastBand_39 : decode cX7_leastBand 39 = .ok (.isub, 1) := by decide +kernel
theorem dX7_leastBand_40 : decode cX7_leastBand 40 = .ok (.invokevirtual 354, 3) := by decide +kernel
theorem dX7_leastBand_43 : decode cX7_leastBand 43 = .ok (.ifCond .lt 5, 3) := by decide +kernel
theorem dX7_leastBand_46 : decode cX7_leastBand 46 = .ok (.iload_n 2, 1) := by decide +kernel
theorem dX7_leastBand_47 : decode cX7_leastBand 47 = .ok (.istore_n 1, 1) := by decide +kernel
theorem dX7_leastBand_48 : decode cX7_leastBand 48 = .ok (.iinc 2 1, 3) := by decide +kernel
theorem dX7_leastBand_51 : decode cX7_leastBand 51 = .ok (.goto (-37), 3) := by decide +kernel
theorem dX7_leastBand_54 : decode cX7_leastBand 54 = .ok (.aload_n 0, 1) := by decide +kernel
theorem dX7_leastBand_55 : decode cX7_leastBand 55 = .ok (.invokevirtual 357, 3) := by decide +kernel
theorem dX7_leastBand_58 : decode cX7_leastBand 58 = .ok (.iload_n 1, 1) := by decide +kernel
theorem dX7_leastBand_59 : decode cX7_leastBand 59 = .ok (.ireturn, 1) := by decide +kernel
theorem dX7_sumOf_0 : decode cX7_sumOf 0 = .ok (.iload_n 1, 1) := by decide +kernel
theorem dX7_sumOf_1 : decode cX7_sumOf 1 = .ok (.invokestatic 268, 3) := by decide +kernel
theorem dX7_sumOf_4 : decode cX7_sumOf 4 = .ok (.aload_n 0, 1) := by decide +kernel
theorem dX7_sumOf_5 : decode cX7_sumOf 5 = .ok (.getfield 81, 3) := by decide +kernel
theorem dX7_sumOf_8 : decode cX7_sumOf 8 = .ok (.iload_n 2, 1) := by decide +kernel
theorem dX7_sumOf_9 : decode cX7_sumOf 9 = .ok (.iaload, 1) := by decide +kernel
theorem dX7_sumOf_10 : decode cX7_sumOf 10 = .ok (.imul, 1) := by decide +kernel
theorem dX7_sumOf_11 : decode cX7_sumOf 11 = .ok (.iload_n 1, 1) := by decide +kernel
theorem dX7_sumOf_12 : decode cX7_sumOf 12 = .ok (.invokestatic 271, 3) := by decide +kernel
theorem dX7_sumOf_15 : decode cX7_sumOf 15 = .ok (.aload_n 0, 1) := by decide +kernel
theorem dX7_sumOf_16 : decode cX7_sumOf 16 = .ok (.getfield 81, 3) := by decide +kernel
theorem dX7_sumOf_19 : decode cX7_sumOf 19 = .ok (.iload_n 3, 1) := by decide +kernel
theorem dX7_sumOf_20 : decode cX7_sumOf 20 = .ok (.iaload, 1) := by decide +kernel
theorem dX7_sumOf_21 : decode cX7_sumOf 21 = .ok (.imul, 1) := by decide +kernel
theorem dX7_sumOf_22 : decode cX7_sumOf 22 = .ok (.iadd, 1) := by decide +kernel
theorem dX7_sumOf_23 : decode cX7_sumOf 23 = .ok (.iload 4, 2) := by decide +kernel
theorem dX7_sumOf_25 : decode cX7_sumOf 25 = .ok (.bipush (-2), 2) := by decide +kernel
theorem dX7_sumOf_27 : decode cX7_sumOf 27 = .ok (.if_icmp .ne 7, 3) := by decide +kernel
theorem dX7_sumOf_30 : decode cX7_sumOf 30 = .ok (.iconst 0, 1) := by decide +kernel
theorem dX7_sumOf_31 : decode cX7_sumOf 31 = .ok (.goto 15, 3) := by decide +kernel
theorem dX7_sumOf_34 : decode cX7_sumOf 34 = .ok (.iload_n 1, 1) := by decide +kernel
theorem dX7_sumOf_35 : decode cX7_sumOf 35 = .ok (.invokestatic 277, 3) := by decide +kernel
theorem dX7_sumOf_38 : decode cX7_sumOf 38 = .ok (.aload_n 0, 1) := by decide +kernel
theorem dX7_sumOf_39 : decode cX7_sumOf 39 = .ok (.getfield 81, 3) := by decide +kernel
theorem dX7_sumOf_42 : decode cX7_sumOf 42 = .ok (.iload 4, 2) := by decide +kernel
theorem dX7_sumOf_44 : decode cX7_sumOf 44 = .ok (.iaload, 1) := by decide +kernel
theorem dX7_sumOf_45 : decode cX7_sumOf 45 = .ok (.imul, 1) := by decide +kernel
theorem dX7_sumOf_46 : decode cX7_sumOf 46 = .ok (.iadd, 1) := by decide +kernel
theorem dX7_sumOf_47 : decode cX7_sumOf 47 = .ok (.ireturn, 1) := by decide +kernel
theorem dX7_hitsRow_0 : decode cX7_hitsRow 0 = .ok (.iload_n 1, 1) := by decide +kernel
theorem dX7_hitsRow_1 : decode cX7_hitsRow 1 = .ok (.iconst 1, 1) := by decide +kernel
theorem dX7_hitsRow_2 : decode cX7_hitsRow 2 = .ok (.if_icmp .lt 9, 3) := by decide +kernel
theorem dX7_hitsRow_5 : decode cX7_hitsRow 5 = .ok (.iload_n 1, 1) := by decide +kernel
theorem dX7_hitsRow_6 : decode cX7_hitsRow 6 = .ok (.bipush 60, 2) := by decide +kernel
theorem dX7_hitsRow_8 : decode cX7_hitsRow 8 = .ok (.if_icmp .le 5, 3) := by decide +kernel
theorem dX7_hitsRow_11 : decode cX7_hitsRow 11 = .ok (.iconst 0, 1) := by decide +kernel
theorem dX7_hitsRow_12 : decode cX7_hitsRow 12 = .ok (.ireturn, 1) := by decide +kernel
theorem dX7_hitsRow_13 : decode cX7_hitsRow 13 = .ok (.iconst 0, 1) := by decide +kernel
theorem dX7_hitsRow_14 : decode cX7_hitsRow 14 = .ok (.istore 7, 2) := by decide +kernel
theorem dX7_hitsRow_16 : decode cX7_hitsRow 16 = .ok (.iload 7, 2) := by decide +kernel
theorem dX7_hitsRow_18 : decode cX7_hitsRow 18 = .ok (.iload_n 2, 1) := by decide +kernel
theorem dX7_hitsRow_19 : decode cX7_hitsRow 19 = .ok (.if_icmp .ge 48, 3) := by decide +kernel
theorem dX7_hitsRow_22 : decode cX7_hitsRow 22 = .ok (.iload 7, 2) := by decide +kernel
theorem dX7_hitsRow_24 : decode cX7_hitsRow 24 = .ok (.iload_n 3, 1) := by decide +kernel
theorem dX7_hitsRow_25 : decode cX7_hitsRow 25 = .ok (.if_icmp .eq 36, 3) := by decide +kernel
theorem dX7_hitsRow_28 : decode cX7_hitsRow 28 = .ok (.iload 7, 2) := by decide +kernel
theorem dX7_hitsRow_30 : decode cX7_hitsRow 30 = .ok (.iload 4, 2) := by decide +kernel
theorem dX7_hitsRow_32 : decode cX7_hitsRow 32 = .ok (.if_icmp .eq 29, 3) := by decide +kernel
theorem dX7_hitsRow_35 : decode cX7_hitsRow 35 = .ok (.iload 7, 2) := by decide +kernel
theorem dX7_hitsRow_37 : decode cX7_hitsRow 37 = .ok (.iload 5, 2) := by decide +kernel
theorem dX7_hitsRow_39 : decode cX7_hitsRow 39 = .ok (.if_icmp .eq 22, 3) := by decide +kernel
theorem dX7_hitsRow_42 : decode cX7_hitsRow 42 = .ok (.aload_n 0, 1) := by decide +kernel
theorem dX7_hitsRow_43 : decode cX7_hitsRow 43 = .ok (.getfield 81, 3) := by decide +kernel
theorem dX7_hitsRow_46 : decode cX7_hitsRow 46 = .ok (.iload 7, 2) := by decide +kernel
theorem dX7_hitsRow_48 : decode cX7_hitsRow 48 = .ok (.iaload, 1) := by decide +kernel
theorem dX7_hitsRow_49 : decode cX7_hitsRow 49 = .ok (.iload_n 1, 1) := by decide +kernel
theorem dX7_hitsRow_50 : decode cX7_hitsRow 50 = .ok (.isub, 1) := by decide +kernel
theorem dX7_hitsRow_51 : decode cX7_hitsRow 51 = .ok (.invokestatic 274, 3) := by decide +kernel
theorem dX7_hitsRow_54 : decode cX7_hitsRow 54 = .ok (.iload 6, 2) := by decide +kernel
theorem dX7_hitsRow_56 : decode cX7_hitsRow 56 = .ok (.if_icmp .gt 5, 3) := by decide +kernel
theorem dX7_hitsRow_59 : decode cX7_hitsRow 59 = .ok (.iconst 1, 1) := by decide +kernel
theorem dX7_hitsRow_60 : decode cX7_hitsRow 60 = .ok (.ireturn, 1) := by decide +kernel
theorem dX7_hitsRow_61 : decode cX7_hitsRow 61 = .ok (.iinc 7 1, 3) := by decide +kernel
theorem dX7_hitsRow_64 : decode cX7_hitsRow 64 = .ok (.goto (-48), 3) := by decide +kernel
theorem dX7_hitsRow_67 : decode cX7_hitsRow 67 = .ok (.iconst 0, 1) := by decide +kernel
theorem dX7_hitsRow_68 : decode cX7_hitsRow 68 = .ok (.ireturn, 1) := by decide +kernel
theorem dX7_isRowClean_0 : decode cX7_isRowClean 0 = .ok (.iconst 0, 1) := by decide +kernel
theorem dX7_isRowClean_1 : decode cX7_isRowClean 1 = .ok (.istore 5, 2) := by decide +kernel
theorem dX7_isRowClean_3 : decode cX7_isRowClean 3 = .ok (.iload 5, 2) := by decide +kernel
theorem dX7_isRowClean_5 : decode cX7_isRowClean 5 = .ok (.iload_n 1, 1) := by decide +kernel
theorem dX7_isRowClean_6 : decode cX7_isRowClean 6 = .ok (.if_icmp .ge 229, 3) := by decide +kernel
theorem dX7_isRowClean_9 : decode cX7_isRowClean 9 = .ok (.iconst 0, 1) := by decide +kernel
theorem dX7_isRowClean_10 : decode cX7_isRowClean 10 = .ok (.istore 6, 2) := by decide +kernel
theorem dX7_isRowClean_12 : decode cX7_isRowClean 12 = .ok (.iload 6, 2) := by decide +kernel
theorem dX7_isRowClean_14 : decode cX7_isRowClean 14 = .ok (.iload_n 1, 1) := by decide +kernel
theorem dX7_isRowClean_15 : decode cX7_isRowClean 15 = .ok (.if_icmp .ge 214, 3) := by decide +kernel
theorem dX7_isRowClean_18 : decode cX7_isRowClean 18 = .ok (.iload 5, 2) := by decide +kernel
theorem dX7_isRowClean_20 : decode cX7_isRowClean 20 = .ok (.iload 6, 2) := by decide +kernel
theorem dX7_isRowClean_22 : decode cX7_isRowClean 22 = .ok (.if_icmp .ne 6, 3) := by decide +kernel
theorem dX7_isRowClean_25 : decode cX7_isRowClean 25 = .ok (.goto 198, 3) := by decide +kernel
theorem dX7_isRowClean_28 : decode cX7_isRowClean 28 = .ok (.aload_n 0, 1) := by decide +kernel
theorem dX7_isRowClean_29 : decode cX7_isRowClean 29 = .ok (.getfield 81, 3) := by decide +kernel
theorem dX7_isRowClean_32 : decode cX7_isRowClean 32 = .ok (.iload 5, 2) := by decide +kernel
theorem dX7_isRowClean_34 : decode cX7_isRowClean 34 = .ok (.iaload, 1) := by decide +kernel
theorem dX7_isRowClean_35 : decode cX7_isRowClean 35 = .ok (.aload_n 0, 1) := by decide +kernel
theorem dX7_isRowClean_36 : decode cX7_isRowClean 36 = .ok (.getfield 81, 3) := by decide +kernel
theorem dX7_isRowClean_39 : decode cX7_isRowClean 39 = .ok (.iload 6, 2) := by decide +kernel
theorem dX7_isRowClean_41 : decode cX7_isRowClean 41 = .ok (.iaload, 1) := by decide +kernel
theorem dX7_isRowClean_42 : decode cX7_isRowClean 42 = .ok (.isub, 1) := by decide +kernel
theorem dX7_isRowClean_43 : decode cX7_isRowClean 43 = .ok (.invokestatic 274, 3) := by decide +kernel
theorem dX7_isRowClean_46 : decode cX7_isRowClean 46 = .ok (.iload 4, 2) := by decide +kernel
theorem dX7_isRowClean_48 : decode cX7_isRowClean 48 = .ok (.if_icmp .ge 5, 3) := by decide +kernel
theorem dX7_isRowClean_51 : decode cX7_isRowClean 51 = .ok (.iconst 0, 1) := by decide +kernel
theorem dX7_isRowClean_52 : decode cX7_isRowClean 52 = .ok (.ireturn, 1) := by decide +kernel
theorem dX7_isRowClean_53 : decode cX7_isRowClean 53 = .ok (.iconst 0, 1) := by decide +kernel
theorem dX7_isRowClean_54 : decode cX7_isRowClean 54 = .ok (.istore 7, 2) := by decide +kernel
theorem dX7_isRowClean_56 : decode cX7_isRowClean 56 = .ok (.iload 7, 2) := by decide +kernel
theorem dX7_isRowClean_58 : decode cX7_isRowClean 58 = .ok (.bipush 6, 2) := by decide +kernel
theorem dX7_isRowClean_60 : decode cX7_isRowClean 60 = .ok (.if_icmp .ge 163, 3) := by decide +kernel
theorem dX7_isRowClean_63 : decode cX7_isRowClean 63 = .ok (.iload 7, 2) := by decide +kernel
theorem dX7_isRowClean_65 : decode cX7_isRowClean 65 = .ok (.ifCond .eq 9, 3) := by decide +kernel
theorem dX7_isRowClean_68 : decode cX7_isRowClean 68 = .ok (.iload 7, 2) := by decide +kernel
theorem dX7_isRowClean_70 : decode cX7_isRowClean 70 = .ok (.iconst 3, 1) := by decide +kernel
theorem dX7_isRowClean_71 : decode cX7_isRowClean 71 = .ok (.if_icmp .ne 7, 3) := by decide +kernel
theorem dX7_isRowClean_74 : decode cX7_isRowClean 74 = .ok (.iconst 1, 1) := by decide +kernel
theorem dX7_isRowClean_75 : decode cX7_isRowClean 75 = .ok (.goto 4, 3) := by decide +kernel
theorem dX7_isRowClean_78 : decode cX7_isRowClean 78 = .ok (.iconst 0, 1) := by decide +kernel
theorem dX7_isRowClean_79 : decode cX7_isRowClean 79 = .ok (.istore 8, 2) := by decide +kernel
theorem dX7_isRowClean_81 : decode cX7_isRowClean 81 = .ok (.iload_n 2, 1) := by decide +kernel
theorem dX7_isRowClean_82 : decode cX7_isRowClean 82 = .ok (.iload 7, 2) := by decide +kernel
theorem dX7_isRowClean_84 : decode cX7_isRowClean 84 = .ok (.invokestatic 286, 3) := by decide +kernel
theorem dX7_isRowClean_87 : decode cX7_isRowClean 87 = .ok (.iand, 1) := by decide +kernel
theorem dX7_isRowClean_88 : decode cX7_isRowClean 88 = .ok (.ifCond .eq 129, 3) := by decide +kernel
theorem dX7_isRowClean_91 : decode cX7_isRowClean 91 = .ok (.iload 8, 2) := by decide +kernel
theorem dX7_isRowClean_93 : decode cX7_isRowClean 93 = .ok (.ifCond .eq 13, 3) := by decide +kernel
theorem dX7_isRowClean_96 : decode cX7_isRowClean 96 = .ok (.iload 5, 2) := by decide +kernel
theorem dX7_isRowClean_98 : decode cX7_isRowClean 98 = .ok (.iload 6, 2) := by decide +kernel
theorem dX7_isRowClean_100 : decode cX7_isRowClean 100 = .ok (.if_icmp .le 6, 3) := by decide +kernel
theorem dX7_isRowClean_103 : decode cX7_isRowClean 103 = .ok (.goto 114, 3) := by decide +kernel
theorem dX7_isRowClean_106 : decode cX7_isRowClean 106 = .ok (.iload 7, 2) := by decide +kernel
theorem dX7_isRowClean_108 : decode cX7_isRowClean 108 = .ok (.iconst 3, 1) := by decide +kernel
theorem dX7_isRowClean_109 : decode cX7_isRowClean 109 = .ok (.if_icmp .eq 38, 3) := by decide +kernel
theorem dX7_isRowClean_112 : decode cX7_isRowClean 112 = .ok (.iload 7, 2) := by decide +kernel
theorem dX7_isRowClean_114 : decode cX7_isRowClean 114 = .ok (.iconst 5, 1) := by decide +kernel
theorem dX7_isRowClean_115 : decode cX7_isRowClean 115 = .ok (.if_icmp .eq 32, 3) := by decide +kernel
theorem dX7_isRowClean_118 : decode cX7_isRowClean 118 = .ok (.aload_n 0, 1) := by decide +kernel
theorem dX7_isRowClean_119 : decode cX7_isRowClean 119 = .ok (.aload_n 0, 1) := by decide +kernel
theorem dX7_isRowClean_120 : decode cX7_isRowClean 120 = .ok (.iload 7, 2) := by decide +kernel
theorem dX7_isRowClean_122 : decode cX7_isRowClean 122 = .ok (.iload 5, 2) := by decide +kernel
theorem dX7_isRowClean_124 : decode cX7_isRowClean 124 = .ok (.iload 6, 2) := by decide +kernel
theorem dX7_isRowClean_126 : decode cX7_isRowClean 126 = .ok (.bipush (-2), 2) := by decide +kernel
theorem dX7_isRowClean_128 : decode cX7_isRowClean 128 = .ok (.invokevirtual 366, 3) := by decide +kernel
theorem dX7_isRowClean_131 : decode cX7_isRowClean 131 = .ok (.iload_n 1, 1) := by decide +kernel
theorem dX7_isRowClean_132 : decode cX7_isRowClean 132 = .ok (.iload 5, 2) := by decide +kernel
theorem dX7_isRowClean_134 : decode cX7_isRowClean 134 = .ok (.iload 6, 2) := by decide +kernel
theorem dX7_isRowClean_136 : decode cX7_isRowClean 136 = .ok (.bipush (-2), 2) := by decide +kernel
theorem dX7_isRowClean_138 : decode cX7_isRowClean 138 = .ok (.iload_n 3, 1) := by decide +kernel
theorem dX7_isRowClean_139 : decode cX7_isRowClean 139 = .ok (.invokevirtual 370, 3) := by decide +kernel
theorem dX7_isRowClean_142 : decode cX7_isRowClean 142 = .ok (.ifCond .eq 5, 3) := by decide +kernel
theorem dX7_isRowClean_145 : decode cX7_isRowClean 145 = .ok (.iconst 0, 1) := by decide +kernel
theorem dX7_isRowClean_146 : decode cX7_isRowClean 146 = .ok (.ireturn, 1) := by decide +kernel
theorem dX7_isRowClean_147 : decode cX7_isRowClean 147 = .ok (.iconst 0, 1) := by decide +kernel
theorem dX7_isRowClean_148 : decode cX7_isRowClean 148 = .ok (.istore 9, 2) := by decide +kernel
theorem dX7_isRowClean_150 : decode cX7_isRowClean 150 = .ok (.iload 9, 2) := by decide +kernel
theorem dX7_isRowClean_152 : decode cX7_isRowClean 152 = .ok (.iload_n 1, 1) := by decide +kernel
theorem dX7_isRowClean_153 : decode cX7_isRowClean 153 = .ok (.if_icmp .ge 64, 3) := by decide +kernel
theorem dX7_isRowClean_156 : decode cX7_isRowClean 156 = .ok (.iload 7, 2) := by decide +kernel
theorem dX7_isRowClean_158 : decode cX7_isRowClean 158 = .ok (.iconst 3, 1) := by decide +kernel
theorem dX7_isRowClean_159 : decode cX7_isRowClean 159 = .ok (.if_icmp .eq 9, 3) := by decide +kernel
theorem dX7_isRowClean_162 : decode cX7_isRowClean 162 = .ok (.iload 7, 2) := by decide +kernel
theorem dX7_isRowClean_164 : decode cX7_isRowClean 164 = .ok (.iconst 5, 1) := by decide +kernel
theorem dX7_isRowClean_165 : decode cX7_isRowClean 165 = .ok (.if_icmp .ne 52, 3) := by decide +kernel
theorem dX7_isRowClean_168 : decode cX7_isRowClean 168 = .ok (.iload 9, 2) := by decide +kernel
theorem dX7_isRowClean_170 : decode cX7_isRowClean 170 = .ok (.iload 5, 2) := by decide +kernel
theorem dX7_isRowClean_172 : decode cX7_isRowClean 172 = .ok (.if_icmp .eq 39, 3) := by decide +kernel
theorem dX7_isRowClean_175 : decode cX7_isRowClean 175 = .ok (.iload 9, 2) := by decide +kernel
theorem dX7_isRowClean_177 : decode cX7_isRowClean 177 = .ok (.iload 6, 2) := by decide +kernel
theorem dX7_isRowClean_179 : decode cX7_isRowClean 179 = .ok (.if_icmp .eq 32, 3) := by decide +kernel
theorem dX7_isRowClean_182 : decode cX7_isRowClean 182 = .ok (.aload_n 0, 1) := by decide +kernel
theorem dX7_isRowClean_183 : decode cX7_isRowClean 183 = .ok (.aload_n 0, 1) := by decide +kernel
theorem dX7_isRowClean_184 : decode cX7_isRowClean 184 = .ok (.iload 7, 2) := by decide +kernel
theorem dX7_isRowClean_186 : decode cX7_isRowClean 186 = .ok (.iload 5, 2) := by decide +kernel
theorem dX7_isRowClean_188 : decode cX7_isRowClean 188 = .ok (.iload 6, 2) := by decide +kernel
theorem dX7_isRowClean_190 : decode cX7_isRowClean 190 = .ok (.iload 9, 2) := by decide +kernel
theorem dX7_isRowClean_192 : decode cX7_isRowClean 192 = .ok (.invokevirtual 366, 3) := by decide +kernel
theorem dX7_isRowClean_195 : decode cX7_isRowClean 195 = .ok (.iload_n 1, 1) := by decide +kernel
theorem dX7_isRowClean_196 : decode cX7_isRowClean 196 = .ok (.iload 5, 2) := by decide +kernel
theorem dX7_isRowClean_198 : decode cX7_isRowClean 198 = .ok (.iload 6, 2) := by decide +kernel
theorem dX7_isRowClean_200 : decode cX7_isRowClean 200 = .ok (.iload 9, 2) := by decide +kernel
theorem dX7_isRowClean_202 : decode cX7_isRowClean 202 = .ok (.iload_n 3, 1) := by decide +kernel
theorem dX7_isRowClean_203 : decode cX7_isRowClean 203 = .ok (.invokevirtual 370, 3) := by decide +kernel
theorem dX7_isRowClean_206 : decode cX7_isRowClean 206 = .ok (.ifCond .eq 5, 3) := by decide +kernel
theorem dX7_isRowClean_209 : decode cX7_isRowClean 209 = .ok (.iconst 0, 1) := by decide +kernel
theorem dX7_isRowClean_210 : decode cX7_isRowClean 210 = .ok (.ireturn, 1) := by decide +kernel
theorem dX7_isRowClean_211 : decode cX7_isRowClean 211 = .ok (.iinc 9 1, 3) := by decide +kernel
theorem dX7_isRowClean_214 : decode cX7_isRowClean 214 = .ok (.goto (-64), 3) := by decide +kernel
theorem dX7_isRowClean_217 : decode cX7_isRowClean 217 = .ok (.iinc 7 1, 3) := by decide +kernel
theorem dX7_isRowClean_220 : decode cX7_isRowClean 220 = .ok (.goto (-164), 3) := by decide +kernel
theorem dX7_isRowClean_223 : decode cX7_isRowClean 223 = .ok (.iinc 6 1, 3) := by decide +kernel
theorem dX7_isRowClean_226 : decode cX7_isRowClean 226 = .ok (.goto (-214), 3) := by decide +kernel
theorem dX7_isRowClean_229 : decode cX7_isRowClean 229 = .ok (.iinc 5 1, 3) := by decide +kernel
theorem dX7_isRowClean_232 : decode cX7_isRowClean 232 = .ok (.goto (-229), 3) := by decide +kernel
theorem dX7_isRowClean_235 : decode cX7_isRowClean 235 = .ok (.iconst 1, 1) := by decide +kernel
theorem dX7_isRowClean_236 : decode cX7_isRowClean 236 = .ok (.ireturn, 1) := by decide +kernel
theorem dX7_grown_0 : decode cX7_grown 0 = .ok (.aload_n 0, 1) := by decide +kernel
theorem dX7_grown_1 : decode cX7_grown 1 = .ok (.iconst 0, 1) := by decide +kernel
theorem dX7_grown_2 : decode cX7_grown 2 = .ok (.putfield 96, 3) := by decide +kernel
theorem dX7_grown_5 : decode cX7_grown 5 = .ok (.iload_n 1, 1) := by decide +kernel
theorem dX7_grown_6 : decode cX7_grown 6 = .ok (.ifCond .lt 34, 3) := by decide +kernel
theorem dX7_grown_9 : decode cX7_grown 9 = .ok (.iload_n 1, 1) := by decide +kernel
theorem dX7_grown_10 : decode cX7_grown 10 = .ok (.bipush 7, 2) := by decide +kernel
theorem dX7_grown_12 : decode cX7_grown 12 = .ok (.if_icmp .gt 28, 3) := by decide +kernel
theorem dX7_grown_15 : decode cX7_grown 15 = .ok (.iload_n 2, 1) := by decide +kernel
theorem dX7_grown_16 : decode cX7_grown 16 = .ok (.ifCond .lt 24, 3) := by decide +kernel
theorem dX7_grown_19 : decode cX7_grown 19 = .ok (.iload_n 2, 1) := by decide +kernel
theorem dX7_grown_20 : decode cX7_grown 20 = .ok (.iconst 5, 1) := by decide +kernel
theorem dX7_grown_21 : decode cX7_grown 21 = .ok (.if_icmp .gt 19, 3) := by decide +kernel
theorem dX7_grown_24 : decode cX7_grown 24 = .ok (.iload_n 3, 1) := by decide +kernel
theorem dX7_grown_25 : decode cX7_grown 25 = .ok (.iconst 1, 1) := by decide +kernel
theorem dX7_grown_26 : decode cX7_grown 26 = .ok (.if_icmp .lt 14, 3) := by decide +kernel
theorem dX7_grown_29 : decode cX7_grown 29 = .ok (.iload_n 3, 1) := by decide +kernel
theorem dX7_grown_30 : decode cX7_grown 30 = .ok (.bipush 20, 2) := by decide +kernel
theorem dX7_grown_32 : decode cX7_grown 32 = .ok (.if_icmp .gt 8, 3) := by decide +kernel
theorem dX7_grown_35 : decode cX7_grown 35 = .ok (.iload 4, 2) := by decide +kernel
theorem dX7_grown_37 : decode cX7_grown 37 = .ok (.ifCond .ge 5, 3) := by decide +kernel
theorem dX7_grown_40 : decode cX7_grown 40 = .ok (.iconst (-1), 1) := by decide +kernel
theorem dX7_grown_41 : decode cX7_grown 41 = .ok (.ireturn, 1) := by decide +kernel
theorem dX7_grown_42 : decode cX7_grown 42 = .ok (.iload 4, 2) := by decide +kernel
theorem dX7_grown_44 : decode cX7_grown 44 = .ok (.bipush 8, 2) := by decide +kernel
theorem dX7_grown_46 : decode cX7_grown 46 = .ok (.if_icmp .lt 6, 3) := by decide +kernel
theorem dX7_grown_49 : decode cX7_grown 49 = .ok (.bipush (-2), 2) := by decide +kernel
theorem dX7_grown_51 : decode cX7_grown 51 = .ok (.ireturn, 1) := by decide +kernel
theorem dX7_grown_52 : decode cX7_grown 52 = .ok (.aload_n 0, 1) := by decide +kernel
theorem dX7_grown_53 : decode cX7_grown 53 = .ok (.getfield 81, 3) := by decide +kernel
theorem dX7_grown_56 : decode cX7_grown 56 = .ok (.iconst 0, 1) := by decide +kernel
theorem dX7_grown_57 : decode cX7_grown 57 = .ok (.iconst 1, 1) := by decide +kernel
theorem dX7_grown_58 : decode cX7_grown 58 = .ok (.iastore, 1) := by decide +kernel
theorem dX7_grown_59 : decode cX7_grown 59 = .ok (.iconst 1, 1) := by decide +kernel
theorem dX7_grown_60 : decode cX7_grown 60 = .ok (.istore 5, 2) := by decide +kernel
theorem dX7_grown_62 : decode cX7_grown 62 = .ok (.iload 5, 2) := by decide +kernel
theorem dX7_grown_64 : decode cX7_grown 64 = .ok (.iload 4, 2) := by decide +kernel
theorem dX7_grown_66 : decode cX7_grown 66 = .ok (.if_icmp .gt 82, 3) := by decide +kernel
theorem dX7_grown_69 : decode cX7_grown 69 = .ok (.aload_n 0, 1) := by decide +kernel
theorem dX7_grown_70 : decode cX7_grown 70 = .ok (.getfield 81, 3) := by decide +kernel
theorem dX7_grown_73 : decode cX7_grown 73 = .ok (.iload 5, 2) := by decide +kernel
theorem dX7_grown_75 : decode cX7_grown 75 = .ok (.aload_n 0, 1) := by decide +kernel
theorem dX7_grown_76 : decode cX7_grown 76 = .ok (.getfield 81, 3) := by decide +kernel
theorem dX7_grown_79 : decode cX7_grown 79 = .ok (.iload 5, 2) := by decide +kernel
theorem dX7_grown_81 : decode cX7_grown 81 = .ok (.iconst 1, 1) := by decide +kernel
theorem dX7_grown_82 : decode cX7_grown 82 = .ok (.isub, 1) := by decide +kernel
theorem dX7_grown_83 : decode cX7_grown 83 = .ok (.iaload, 1) := by decide +kernel
theorem dX7_grown_84 : decode cX7_grown 84 = .ok (.iconst 1, 1) := by decide +kernel
theorem dX7_grown_85 : decode cX7_grown 85 = .ok (.iadd, 1) := by decide +kernel
theorem dX7_grown_86 : decode cX7_grown 86 = .ok (.iastore, 1) := by decide +kernel
theorem dX7_grown_87 : decode cX7_grown 87 = .ok (.aload_n 0, 1) := by decide +kernel
theorem dX7_grown_88 : decode cX7_grown 88 = .ok (.getfield 81, 3) := by decide +kernel
theorem dX7_grown_91 : decode cX7_grown 91 = .ok (.iload 5, 2) := by decide +kernel
theorem dX7_grown_93 : decode cX7_grown 93 = .ok (.iaload, 1) := by decide +kernel
theorem dX7_grown_94 : decode cX7_grown 94 = .ok (.bipush 60, 2) := by decide +kernel
theorem dX7_grown_96 : decode cX7_grown 96 = .ok (.if_icmp .gt 31, 3) := by decide +kernel
theorem dX7_grown_99 : decode cX7_grown 99 = .ok (.aload_n 0, 1) := by decide +kernel
theorem dX7_grown_100 : decode cX7_grown 100 = .ok (.iload 5, 2) := by decide +kernel
theorem dX7_grown_102 : decode cX7_grown 102 = .ok (.iconst 1, 1) := by decide +kernel
theorem dX7_grown_103 : decode cX7_grown 103 = .ok (.iadd, 1) := by decide +kernel
theorem dX7_grown_104 : decode cX7_grown 104 = .ok (.iload_n 1, 1) := by decide +kernel
theorem dX7_grown_105 : decode cX7_grown 105 = .ok (.iload_n 2, 1) := by decide +kernel
theorem dX7_grown_106 : decode cX7_grown 106 = .ok (.iload_n 3, 1) := by decide +kernel
theorem dX7_grown_107 : decode cX7_grown 107 = .ok (.invokevirtual 374, 3) := by decide +kernel
theorem dX7_grown_110 : decode cX7_grown 110 = .ok (.ifCond .ne 17, 3) := by decide +kernel
theorem dX7_grown_113 : decode cX7_grown 113 = .ok (.aload_n 0, 1) := by decide +kernel
theorem dX7_grown_114 : decode cX7_grown 114 = .ok (.getfield 81, 3) := by decide +kernel
theorem dX7_grown_117 : decode cX7_grown 117 = .ok (.iload 5, 2) := by decide +kernel
theorem dX7_grown_119 : decode cX7_grown 119 = .ok (.dup2, 1) := by decide +kernel
theorem dX7_grown_120 : decode cX7_grown 120 = .ok (.iaload, 1) := by decide +kernel
theorem dX7_grown_121 : decode cX7_grown 121 = .ok (.iconst 1, 1) := by decide +kernel
theorem dX7_grown_122 : decode cX7_grown 122 = .ok (.iadd, 1) := by decide +kernel
theorem dX7_grown_123 : decode cX7_grown 123 = .ok (.iastore, 1) := by decide +kernel
theorem dX7_grown_124 : decode cX7_grown 124 = .ok (.goto (-37), 3) := by decide +kernel
theorem dX7_grown_127 : decode cX7_grown 127 = .ok (.aload_n 0, 1) := by decide +kernel
theorem dX7_grown_128 : decode cX7_grown 128 = .ok (.getfield 81, 3) := by decide +kernel
theorem dX7_grown_131 : decode cX7_grown 131 = .ok (.iload 5, 2) := by decide +kernel
theorem dX7_grown_133 : decode cX7_grown 133 = .ok (.iaload, 1) := by decide +kernel
theorem dX7_grown_134 : decode cX7_grown 134 = .ok (.bipush 60, 2) := by decide +kernel
theorem dX7_grown_136 : decode cX7_grown 136 = .ok (.if_icmp .le 6, 3) := by decide +kernel
theorem dX7_grown_139 : decode cX7_grown 139 = .ok (.bipush (-2), 2) := by decide +kernel
theorem dX7_grown_141 : decode cX7_grown 141 = .ok (.ireturn, 1) := by decide +kernel
theorem dX7_grown_142 : decode cX7_grown 142 = .ok (.iinc 5 1, 3) := by decide +kernel
theorem dX7_grown_145 : decode cX7_grown 145 = .ok (.goto (-83), 3) := by decide +kernel
theorem dX7_grown_148 : decode cX7_grown 148 = .ok (.aload_n 0, 1) := by decide +kernel
theorem dX7_grown_149 : decode cX7_grown 149 = .ok (.getfield 81, 3) := by decide +kernel
theorem dX7_grown_152 : decode cX7_grown 152 = .ok (.iload 4, 2) := by decide +kernel
theorem dX7_grown_154 : decode cX7_grown 154 = .ok (.iaload, 1) := by decide +kernel
theorem dX7_grown_155 : decode cX7_grown 155 = .ok (.ireturn, 1) := by decide +kernel
theorem dX7_user_0 : decode cX7_user 0 = .ok (.aload_n 0, 1) := by decide +kernel
theorem dX7_user_1 : decode cX7_user 1 = .ok (.iconst 0, 1) := by decide +kernel
theorem dX7_user_2 : decode cX7_user 2 = .ok (.putfield 96, 3) := by decide +kernel
theorem dX7_user_5 : decode cX7_user 5 = .ok (.aload_n 0, 1) := by decide +kernel
theorem dX7_user_6 : decode cX7_user 6 = .ok (.iload_n 1, 1) := by decide +kernel
theorem dX7_user_7 : decode cX7_user 7 = .ok (.invokevirtual 259, 3) := by decide +kernel
theorem dX7_user_10 : decode cX7_user 10 = .ok (.ifCond .ne 10, 3) := by decide +kernel
theorem dX7_user_13 : decode cX7_user 13 = .ok (.aload_n 0, 1) := by decide +kernel
theorem dX7_user_14 : decode cX7_user 14 = .ok (.iconst 1, 1) := by decide +kernel
theorem dX7_user_15 : decode cX7_user 15 = .ok (.putfield 96, 3) := by decide +kernel
theorem dX7_user_18 : decode cX7_user 18 = .ok (.iconst 0, 1) := by decide +kernel
theorem dX7_user_19 : decode cX7_user 19 = .ok (.ireturn, 1) := by decide +kernel
theorem dX7_user_20 : decode cX7_user 20 = .ok (.iload_n 2, 1) := by decide +kernel
theorem dX7_user_21 : decode cX7_user 21 = .ok (.tableswitch 118 0 6 #[43, 50, 60, 67, 74, 83, 108], 43) := by decide +kernel
theorem dX7_user_64 : decode cX7_user 64 = .ok (.aload_n 0, 1) := by decide +kernel
theorem dX7_user_65 : decode cX7_user 65 = .ok (.getfield 23, 3) := by decide +kernel
theorem dX7_user_68 : decode cX7_user 68 = .ok (.iload_n 1, 1) := by decide +kernel
theorem dX7_user_69 : decode cX7_user 69 = .ok (.iaload, 1) := by decide +kernel
theorem dX7_user_70 : decode cX7_user 70 = .ok (.ireturn, 1) := by decide +kernel
theorem dX7_user_71 : decode cX7_user 71 = .ok (.aload_n 0, 1) := by decide +kernel
theorem dX7_user_72 : decode cX7_user 72 = .ok (.getfield 51, 3) := by decide +kernel
theorem dX7_user_75 : decode cX7_user 75 = .ok (.bipush 6, 2) := by decide +kernel
theorem dX7_user_77 : decode cX7_user 77 = .ok (.iload_n 1, 1) := by decide +kernel
theorem dX7_user_78 : decode cX7_user 78 = .ok (.iadd, 1) := by decide +kernel
theorem dX7_user_79 : decode cX7_user 79 = .ok (.iaload, 1) := by decide +kernel
theorem dX7_user_80 : decode cX7_user 80 = .ok (.ireturn, 1) := by decide +kernel
theorem dX7_user_81 : decode cX7_user 81 = .ok (.aload_n 0, 1) := by decide +kernel
theorem dX7_user_82 : decode cX7_user 82 = .ok (.getfield 29, 3) := by decide +kernel
theorem dX7_user_85 : decode cX7_user 85 = .ok (.iload_n 1, 1) := by decide +kernel
theorem dX7_user_86 : decode cX7_user 86 = .ok (.iaload, 1) := by decide +kernel
theorem dX7_user_87 : decode cX7_user 87 = .ok (.ireturn, 1) := by decide +kernel
theorem dX7_user_88 : decode cX7_user 88 = .ok (.aload_n 0, 1) := by decide +kernel
theorem dX7_user_89 : decode cX7_user 89 = .ok (.getfield 32, 3) := by decide +kernel
theorem dX7_user_92 : decode cX7_user 92 = .ok (.iload_n 1, 1) := by decide +kernel
theorem dX7_user_93 : decode cX7_user 93 = .ok (.iaload, 1) := by decide +kernel
theorem dX7_user_94 : decode cX7_user 94 = .ok (.ireturn, 1) := by decide +kernel
theorem dX7_user_95 : decode cX7_user 95 = .ok (.aload_n 0, 1) := by decide +kernel
theorem dX7_user_96 : decode cX7_user 96 = .ok (.getfield 51, 3) := by decide +kernel
theorem dX7_user_99 : decode cX7_user 99 = .ok (.iconst 0, 1) := by decide +kernel
theorem dX7_user_100 : decode cX7_user 100 = .ok (.iload_n 1, 1) := by decide +kernel
theorem dX7_user_101 : decode cX7_user 101 = .ok (.iadd, 1) := by decide +kernel
theorem dX7_user_102 : decode cX7_user 102 = .ok (.iaload, 1) := by decide +kernel
theorem dX7_user_103 : decode cX7_user 103 = .ok (.ireturn, 1) := by decide +kernel
theorem dX7_user_104 : decode cX7_user 104 = .ok (.aload_n 0, 1) := by decide +kernel
theorem dX7_user_105 : decode cX7_user 105 = .ok (.getfield 51, 3) := by decide +kernel
theorem dX7_user_108 : decode cX7_user 108 = .ok (.iconst 0, 1) := by decide +kernel
theorem dX7_user_109 : decode cX7_user 109 = .ok (.iload_n 1, 1) := by decide +kernel
theorem dX7_user_110 : decode cX7_user 110 = .ok (.iadd, 1) := by decide +kernel
theorem dX7_user_111 : decode cX7_user 111 = .ok (.iaload, 1) := by decide +kernel
theorem dX7_user_112 : decode cX7_user 112 = .ok (.ifCond .le 15, 3) := by decide +kernel
theorem dX7_user_115 : decode cX7_user 115 = .ok (.aload_n 0, 1) := by decide +kernel
theorem dX7_user_116 : decode cX7_user 116 = .ok (.iload_n 1, 1) := by decide +kernel
theorem dX7_user_117 : decode cX7_user 117 = .ok (.invokevirtual 323, 3) := by decide +kernel
theorem dX7_user_120 : decode cX7_user 120 = .ok (.ifCond .eq 7, 3) := by decide +kernel
theorem dX7_user_123 : decode cX7_user 123 = .ok (.iconst 1, 1) := by decide +kernel
theorem dX7_user_124 : decode cX7_user 124 = .ok (.goto 4, 3) := by decide +kernel
theorem dX7_user_127 : decode cX7_user 127 = .ok (.iconst 0, 1) := by decide +kernel
theorem dX7_user_128 : decode cX7_user 128 = .ok (.ireturn, 1) := by decide +kernel
theorem dX7_user_129 : decode cX7_user 129 = .ok (.aload_n 0, 1) := by decide +kernel
theorem dX7_user_130 : decode cX7_user 130 = .ok (.getfield 51, 3) := by decide +kernel
theorem dX7_user_133 : decode cX7_user 133 = .ok (.bipush 73, 2) := by decide +kernel
theorem dX7_user_135 : decode cX7_user 135 = .ok (.iload_n 1, 1) := by decide +kernel
theorem dX7_user_136 : decode cX7_user 136 = .ok (.iadd, 1) := by decide +kernel
theorem dX7_user_137 : decode cX7_user 137 = .ok (.iaload, 1) := by decide +kernel
theorem dX7_user_138 : decode cX7_user 138 = .ok (.ireturn, 1) := by decide +kernel
theorem dX7_user_139 : decode cX7_user 139 = .ok (.aload_n 0, 1) := by decide +kernel
theorem dX7_user_140 : decode cX7_user 140 = .ok (.iconst 2, 1) := by decide +kernel
theorem dX7_user_141 : decode cX7_user 141 = .ok (.putfield 96, 3) := by decide +kernel
theorem dX7_user_144 : decode cX7_user 144 = .ok (.iconst 0, 1) := by decide +kernel
theorem dX7_user_145 : decode cX7_user 145 = .ok (.ireturn, 1) := by decide +kernel
theorem dX7_blocked_0 : decode cX7_blocked 0 = .ok (.aload_n 0, 1) := by decide +kernel
theorem dX7_blocked_1 : decode cX7_blocked 1 = .ok (.iconst 0, 1) := by decide +kernel
theorem dX7_blocked_2 : decode cX7_blocked 2 = .ok (.putfield 96, 3) := by decide +kernel
theorem dX7_blocked_5 : decode cX7_blocked 5 = .ok (.aload_n 0, 1) := by decide +kernel
theorem dX7_blocked_6 : decode cX7_blocked 6 = .ok (.iload_n 1, 1) := by decide +kernel
theorem dX7_blocked_7 : decode cX7_blocked 7 = .ok (.invokevirtual 262, 3) := by decide +kernel
theorem dX7_blocked_10 : decode cX7_blocked 10 = .ok (.ifCond .eq 15, 3) := by decide +kernel
theorem dX7_blocked_13 : decode cX7_blocked 13 = .ok (.aload_n 0, 1) := by decide +kernel
theorem dX7_blocked_14 : decode cX7_blocked 14 = .ok (.getfield 51, 3) := by decide +kernel
theorem dX7_blocked_17 : decode cX7_blocked 17 = .ok (.bipush 12, 2) := by decide +kernel
theorem dX7_blocked_19 : decode cX7_blocked 19 = .ok (.iload_n 1, 1) := by decide +kernel
theorem dX7_blocked_20 : decode cX7_blocked 20 = .ok (.iadd, 1) := by decide +kernel
theorem dX7_blocked_21 : decode cX7_blocked 21 = .ok (.iaload, 1) := by decide +kernel
theorem dX7_blocked_22 : decode cX7_blocked 22 = .ok (.goto 4, 3) := by decide +kernel
theorem dX7_blocked_25 : decode cX7_blocked 25 = .ok (.iconst (-1), 1) := by decide +kernel
theorem dX7_blocked_26 : decode cX7_blocked 26 = .ok (.ireturn, 1) := by decide +kernel
theorem dX7_products_0 : decode cX7_products 0 = .ok (.aload_n 0, 1) := by decide +kernel
theorem dX7_products_1 : decode cX7_products 1 = .ok (.iconst 0, 1) := by decide +kernel
theorem dX7_products_2 : decode cX7_products 2 = .ok (.putfield 96, 3) := by decide +kernel
theorem dX7_products_5 : decode cX7_products 5 = .ok (.aload_n 0, 1) := by decide +kernel
theorem dX7_products_6 : decode cX7_products 6 = .ok (.invokevirtual 326, 3) := by decide +kernel
theorem dX7_products_9 : decode cX7_products 9 = .ok (.iload_n 1, 1) := by decide +kernel
theorem dX7_products_10 : decode cX7_products 10 = .ok (.tableswitch 50 0 3 #[30, 35, 40, 45], 30) := by decide +kernel
theorem dX7_products_40 : decode cX7_products 40 = .ok (.aload_n 0, 1) := by decide +kernel
theorem dX7_products_41 : decode cX7_products 41 = .ok (.getfield 280, 3) := by decide +kernel
theorem dX7_products_44 : decode cX7_products 44 = .ok (.ireturn, 1) := by decide +kernel
theorem dX7_products_45 : decode cX7_products 45 = .ok (.aload_n 0, 1) := by decide +kernel
theorem dX7_products_46 : decode cX7_products 46 = .ok (.invokevirtual 378, 3) := by decide +kernel
theorem dX7_products_49 : decode cX7_products 49 = .ok (.ireturn, 1) := by decide +kernel
theorem dX7_products_50 : decode cX7_products 50 = .ok (.aload_n 0, 1) := by decide +kernel
theorem dX7_products_51 : decode cX7_products 51 = .ok (.invokevirtual 381, 3) := by decide +kernel
theorem dX7_products_54 : decode cX7_products 54 = .ok (.ireturn, 1) := by decide +kernel
theorem dX7_products_55 : decode cX7_products 55 = .ok (.aload_n 0, 1) := by decide +kernel
theorem dX7_products_56 : decode cX7_products 56 = .ok (.invokevirtual 384, 3) := by decide +kernel
theorem dX7_products_59 : decode cX7_products 59 = .ok (.ireturn, 1) := by decide +kernel
theorem dX7_products_60 : decode cX7_products 60 = .ok (.iconst (-1), 1) := by decide +kernel
theorem dX7_products_61 : decode cX7_products 61 = .ok (.ireturn, 1) := by decide +kernel
theorem dX7_heard_0 : decode cX7_heard 0 = .ok (.iconst 0, 1) := by decide +kernel
theorem dX7_heard_1 : decode cX7_heard 1 = .ok (.istore_n 1, 1) := by decide +kernel
theorem dX7_heard_2 : decode cX7_heard 2 = .ok (.iconst 0, 1) := by decide +kernel
theorem dX7_heard_3 : decode cX7_heard 3 = .ok (.istore_n 2, 1) := by decide +kernel
theorem dX7_heard_4 : decode cX7_heard 4 = .ok (.iload_n 2, 1) := by decide +kernel
theorem dX7_heard_5 : decode cX7_heard 5 = .ok (.aload_n 0, 1) := by decide +kernel
theorem dX7_heard_6 : decode cX7_heard 6 = .ok (.getfield 280, 3) := by decide +kernel
theorem dX7_heard_9 : decode cX7_heard 9 = .ok (.if_icmp .ge 26, 3) := by decide +kernel
theorem dX7_heard_12 : decode cX7_heard 12 = .ok (.iload_n 1, 1) := by decide +kernel
theorem dX7_heard_13 : decode cX7_heard 13 = .ok (.aload_n 0, 1) := by decide +kernel
theorem dX7_heard_14 : decode cX7_heard 14 = .ok (.getfield 75, 3) := by decide +kernel
theorem dX7_heard_17 : decode cX7_heard 17 = .ok (.iload_n 2, 1) := by decide +kernel
theorem dX7_heard_18 : decode cX7_heard 18 = .ok (.iaload, 1) := by decide +kernel
theorem dX7_heard_19 : decode cX7_heard 19 = .ok (.ifCond .lt 7, 3) := by decide +kernel
theorem dX7_heard_22 : decode cX7_heard 22 = .ok (.iconst 1, 1) := by decide +kernel
theorem dX7_heard_23 : decode cX7_heard 23 = .ok (.goto 4, 3) := by decide +kernel
theorem dX7_heard_26 : decode cX7_heard 26 = .ok (.iconst 0, 1) := by decide +kernel
theorem dX7_heard_27 : decode cX7_heard 27 = .ok (.iadd, 1) := by decide +kernel
theorem dX7_heard_28 : decode cX7_heard 28 = .ok (.istore_n 1, 1) := by decide +kernel
theorem dX7_heard_29 : decode cX7_heard 29 = .ok (.iinc 2 1, 3) := by decide +kernel
theorem dX7_heard_32 : decode cX7_heard 32 = .ok (.goto (-28), 3) := by decide +kernel
theorem dX7_heard_35 : decode cX7_heard 35 = .ok (.iload_n 1, 1) := by decide +kernel
theorem dX7_heard_36 : decode cX7_heard 36 = .ok (.ireturn, 1) := by decide +kernel
theorem dX7_product_0 : decode cX7_product 0 = .ok (.aload_n 0, 1) := by decide +kernel
theorem dX7_product_1 : decode cX7_product 1 = .ok (.iconst 0, 1) := by decide +kernel
theorem dX7_product_2 : decode cX7_product 2 = .ok (.putfield 96, 3) := by decide +kernel
theorem dX7_product_5 : decode cX7_product 5 = .ok (.aload_n 0, 1) := by decide +kernel
theorem dX7_product_6 : decode cX7_product 6 = .ok (.invokevirtual 326, 3) := by decide +kernel
theorem dX7_product_9 : decode cX7_product 9 = .ok (.iload_n 1, 1) := by decide +kernel
theorem dX7_product_10 : decode cX7_product 10 = .ok (.ifCond .lt 11, 3) := by decide +kernel
theorem dX7_product_13 : decode cX7_product 13 = .ok (.iload_n 1, 1) := by decide +kernel
theorem dX7_product_14 : decode cX7_product 14 = .ok (.aload_n 0, 1) := by decide +kernel
theorem dX7_product_15 : decode cX7_product 15 = .ok (.getfield 280, 3) := by decide +kernel
theorem dX7_product_18 : decode cX7_product 18 = .ok (.if_icmp .lt 7, 3) := by decide +kernel
theorem dX7_product_21 : decode cX7_product 21 = .ok (.sipush (-1000), 3) := by decide +kernel
theorem dX7_product_24 : decode cX7_product 24 = .ok (.ireturn, 1) := by decide +kernel
theorem dX7_product_25 : decode cX7_product 25 = .ok (.iload_n 2, 1) := by decide +kernel
theorem dX7_product_26 : decode cX7_product 26 = .ok (.tableswitch 90 0 6 #[42, 49, 56, 63, 70, 77, 84], 42) := by decide +kernel
theorem dX7_product_68 : decode cX7_product 68 = .ok (.aload_n 0, 1) := by decide +kernel
theorem dX7_product_69 : decode cX7_product 69 = .ok (.getfield 60, 3) := by decide +kernel
theorem dX7_product_72 : decode cX7_product 72 = .ok (.iload_n 1, 1) := by decide +kernel
theorem dX7_product_73 : decode cX7_product 73 = .ok (.iaload, 1) := by decide +kernel
theorem dX7_product_74 : decode cX7_product 74 = .ok (.ireturn, 1) := by decide +kernel
theorem dX7_product_75 : decode cX7_product 75 = .ok (.aload_n 0, 1) := by decide +kernel
theorem dX7_product_76 : decode cX7_product 76 = .ok (.getfield 63, 3) := by decide +kernel
theorem dX7_product_79 : decode cX7_product 79 = .ok (.iload_n 1, 1) := by decide +kernel
theorem dX7_product_80 : decode cX7_product 80 = .ok (.iaload, 1) := by decide +kernel
theorem dX7_product_81 : decode cX7_product 81 = .ok (.ireturn, 1) := by decide +kernel
theorem dX7_product_82 : decode cX7_product 82 = .ok (.aload_n 0, 1) := by decide +kernel
theorem dX7_product_83 : decode cX7_product 83 = .ok (.getfield 66, 3) := by decide +kernel
theorem dX7_product_86 : decode cX7_product 86 = .ok (.iload_n 1, 1) := by decide +kernel
theorem dX7_product_87 : decode cX7_product 87 = .ok (.iaload, 1) := by decide +kernel
theorem dX7_product_88 : decode cX7_product 88 = .ok (.ireturn, 1) := by decide +kernel
theorem dX7_product_89 : decode cX7_product 89 = .ok (.aload_n 0, 1) := by decide +kernel
theorem dX7_product_90 : decode cX7_product 90 = .ok (.getfield 69, 3) := by decide +kernel
theorem dX7_product_93 : decode cX7_product 93 = .ok (.iload_n 1, 1) := by decide +kernel
theorem dX7_product_94 : decode cX7_product 94 = .ok (.iaload, 1) := by decide +kernel
theorem dX7_product_95 : decode cX7_product 95 = .ok (.ireturn, 1) := by decide +kernel
theorem dX7_product_96 : decode cX7_product 96 = .ok (.aload_n 0, 1) := by decide +kernel
theorem dX7_product_97 : decode cX7_product 97 = .ok (.getfield 72, 3) := by decide +kernel
theorem dX7_product_100 : decode cX7_product 100 = .ok (.iload_n 1, 1) := by decide +kernel
theorem dX7_product_101 : decode cX7_product 101 = .ok (.iaload, 1) := by decide +kernel
theorem dX7_product_102 : decode cX7_product 102 = .ok (.ireturn, 1) := by decide +kernel
theorem dX7_product_103 : decode cX7_product 103 = .ok (.aload_n 0, 1) := by decide +kernel
theorem dX7_product_104 : decode cX7_product 104 = .ok (.getfield 75, 3) := by decide +kernel
theorem dX7_product_107 : decode cX7_product 107 = .ok (.iload_n 1, 1) := by decide +kernel
theorem dX7_product_108 : decode cX7_product 108 = .ok (.iaload, 1) := by decide +kernel
theorem dX7_product_109 : decode cX7_product 109 = .ok (.ireturn, 1) := by decide +kernel
theorem dX7_product_110 : decode cX7_product 110 = .ok (.aload_n 0, 1) := by decide +kernel
theorem dX7_product_111 : decode cX7_product 111 = .ok (.iload_n 1, 1) := by decide +kernel
theorem dX7_product_112 : decode cX7_product 112 = .ok (.invokevirtual 308, 3) := by decide +kernel
theorem dX7_product_115 : decode cX7_product 115 = .ok (.ireturn, 1) := by decide +kernel
theorem dX7_product_116 : decode cX7_product 116 = .ok (.sipush (-1000), 3) := by decide +kernel
theorem dX7_product_119 : decode cX7_product 119 = .ok (.ireturn, 1) := by decide +kernel
theorem dX7_hits__0 : decode cX7_hits_ 0 = .ok (.aload_n 0, 1) := by decide +kernel
theorem dX7_hits__1 : decode cX7_hits_ 1 = .ok (.iconst 0, 1) := by decide +kernel
theorem dX7_hits__2 : decode cX7_hits_ 2 = .ok (.putfield 96, 3) := by decide +kernel
theorem dX7_hits__5 : decode cX7_hits_ 5 = .ok (.aload_n 0, 1) := by decide +kernel
theorem dX7_hits__6 : decode cX7_hits_ 6 = .ok (.iload_n 1, 1) := by decide +kernel
theorem dX7_hits__7 : decode cX7_hits_ 7 = .ok (.invokevirtual 259, 3) := by decide +kernel
theorem dX7_hits__10 : decode cX7_hits_ 10 = .ok (.ifCond .ne 5, 3) := by decide +kernel
theorem dX7_hits__13 : decode cX7_hits_ 13 = .ok (.iconst (-1), 1) := by decide +kernel
theorem dX7_hits__14 : decode cX7_hits_ 14 = .ok (.ireturn, 1) := by decide +kernel
theorem dX7_hits__15 : decode cX7_hits_ 15 = .ok (.aload_n 0, 1) := by decide +kernel
theorem dX7_hits__16 : decode cX7_hits_ 16 = .ok (.getfield 51, 3) := by decide +kernel
theorem dX7_hits__19 : decode cX7_hits_ 19 = .ok (.iconst 0, 1) := by decide +kernel
theorem dX7_hits__20 : decode cX7_hits_ 20 = .ok (.iload_n 1, 1) := by decide +kernel
theorem dX7_hits__21 : decode cX7_hits_ 21 = .ok (.iadd, 1) := by decide +kernel
theorem dX7_hits__22 : decode cX7_hits_ 22 = .ok (.iaload, 1) := by decide +kernel
theorem dX7_hits__23 : decode cX7_hits_ 23 = .ok (.ifCond .ne 6, 3) := by decide +kernel
theorem dX7_hits__26 : decode cX7_hits_ 26 = .ok (.bipush (-2), 2) := by decide +kernel
theorem dX7_hits__28 : decode cX7_hits_ 28 = .ok (.ireturn, 1) := by decide +kernel
theorem dX7_hits__29 : decode cX7_hits_ 29 = .ok (.aload_n 0, 1) := by decide +kernel
theorem dX7_hits__30 : decode cX7_hits_ 30 = .ok (.invokevirtual 326, 3) := by decide +kernel
theorem dX7_hits__33 : decode cX7_hits_ 33 = .ok (.iconst 0, 1) := by decide +kernel
theorem dX7_hits__34 : decode cX7_hits_ 34 = .ok (.istore_n 2, 1) := by decide +kernel
theorem dX7_hits__35 : decode cX7_hits_ 35 = .ok (.iconst 0, 1) := by decide +kernel
theorem dX7_hits__36 : decode cX7_hits_ 36 = .ok (.istore_n 3, 1) := by decide +kernel
theorem dX7_hits__37 : decode cX7_hits_ 37 = .ok (.iload_n 3, 1) := by decide +kernel
theorem dX7_hits__38 : decode cX7_hits_ 38 = .ok (.aload_n 0, 1) := by decide +kernel
theorem dX7_hits__39 : decode cX7_hits_ 39 = .ok (.getfield 280, 3) := by decide +kernel
theorem dX7_hits__42 : decode cX7_hits_ 42 = .ok (.if_icmp .ge 26, 3) := by decide +kernel
theorem dX7_hits__45 : decode cX7_hits_ 45 = .ok (.iload_n 2, 1) := by decide +kernel
theorem dX7_hits__46 : decode cX7_hits_ 46 = .ok (.aload_n 0, 1) := by decide +kernel
theorem dX7_hits__47 : decode cX7_hits_ 47 = .ok (.iload_n 3, 1) := by decide +kernel
theorem dX7_hits__48 : decode cX7_hits_ 48 = .ok (.iload_n 1, 1) := by decide +kernel
theorem dX7_hits__49 : decode cX7_hits_ 49 = .ok (.invokevirtual 305, 3) := by decide +kernel
theorem dX7_hits__52 : decode cX7_hits_ 52 = .ok (.ifCond .eq 7, 3) := by decide +kernel
theorem dX7_hits__55 : decode cX7_hits_ 55 = .ok (.iconst 1, 1) := by decide +kernel
theorem dX7_hits__56 : decode cX7_hits_ 56 = .ok (.goto 4, 3) := by decide +kernel
theorem dX7_hits__59 : decode cX7_hits_ 59 = .ok (.iconst 0, 1) := by decide +kernel
theorem dX7_hits__60 : decode cX7_hits_ 60 = .ok (.iadd, 1) := by decide +kernel
theorem dX7_hits__61 : decode cX7_hits_ 61 = .ok (.istore_n 2, 1) := by decide +kernel
theorem dX7_hits__62 : decode cX7_hits_ 62 = .ok (.iinc 3 1, 3) := by decide +kernel
theorem dX7_hits__65 : decode cX7_hits_ 65 = .ok (.goto (-28), 3) := by decide +kernel
theorem dX7_hits__68 : decode cX7_hits_ 68 = .ok (.iload_n 2, 1) := by decide +kernel
theorem dX7_hits__69 : decode cX7_hits_ 69 = .ok (.ireturn, 1) := by decide +kernel
