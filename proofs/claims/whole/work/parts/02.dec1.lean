theorem dX2_levelOf_0 : decode cX2_levelOf 0 = .ok (.getstatic 76, 3) := by decide +kernel
theorem dX2_levelOf_3 : decode cX2_levelOf 3 = .ok (.iload_n 2, 1) := by decide +kernel
theorem dX2_levelOf_4 : decode cX2_levelOf 4 = .ok (.iaload, 1) := by decide +kernel
theorem dX2_levelOf_5 : decode cX2_levelOf 5 = .ok (.aload_n 1, 1) := by decide +kernel
theorem dX2_levelOf_6 : decode cX2_levelOf 6 = .ok (.getfield 112, 3) := by decide +kernel
theorem dX2_levelOf_9 : decode cX2_levelOf 9 = .ok (.iload_n 3, 1) := by decide +kernel
theorem dX2_levelOf_10 : decode cX2_levelOf 10 = .ok (.iaload, 1) := by decide +kernel
theorem dX2_levelOf_11 : decode cX2_levelOf 11 = .ok (.imul, 1) := by decide +kernel
theorem dX2_levelOf_12 : decode cX2_levelOf 12 = .ok (.getstatic 115, 3) := by decide +kernel
theorem dX2_levelOf_15 : decode cX2_levelOf 15 = .ok (.iload_n 2, 1) := by decide +kernel
theorem dX2_levelOf_16 : decode cX2_levelOf 16 = .ok (.iaload, 1) := by decide +kernel
theorem dX2_levelOf_17 : decode cX2_levelOf 17 = .ok (.aload_n 1, 1) := by decide +kernel
theorem dX2_levelOf_18 : decode cX2_levelOf 18 = .ok (.getfield 112, 3) := by decide +kernel
theorem dX2_levelOf_21 : decode cX2_levelOf 21 = .ok (.iload 4, 2) := by decide +kernel
theorem dX2_levelOf_23 : decode cX2_levelOf 23 = .ok (.iaload, 1) := by decide +kernel
theorem dX2_levelOf_24 : decode cX2_levelOf 24 = .ok (.imul, 1) := by decide +kernel
theorem dX2_levelOf_25 : decode cX2_levelOf 25 = .ok (.iadd, 1) := by decide +kernel
theorem dX2_levelOf_26 : decode cX2_levelOf 26 = .ok (.iload 5, 2) := by decide +kernel
theorem dX2_levelOf_28 : decode cX2_levelOf 28 = .ok (.ifCond .ge 7, 3) := by decide +kernel
theorem dX2_levelOf_31 : decode cX2_levelOf 31 = .ok (.iconst 0, 1) := by decide +kernel
theorem dX2_levelOf_32 : decode cX2_levelOf 32 = .ok (.goto 16, 3) := by decide +kernel
theorem dX2_levelOf_35 : decode cX2_levelOf 35 = .ok (.getstatic 118, 3) := by decide +kernel
theorem dX2_levelOf_38 : decode cX2_levelOf 38 = .ok (.iload_n 2, 1) := by decide +kernel
theorem dX2_levelOf_39 : decode cX2_levelOf 39 = .ok (.iaload, 1) := by decide +kernel
theorem dX2_levelOf_40 : decode cX2_levelOf 40 = .ok (.aload_n 1, 1) := by decide +kernel
theorem dX2_levelOf_41 : decode cX2_levelOf 41 = .ok (.getfield 112, 3) := by decide +kernel
theorem dX2_levelOf_44 : decode cX2_levelOf 44 = .ok (.iload 5, 2) := by decide +kernel
theorem dX2_levelOf_46 : decode cX2_levelOf 46 = .ok (.iaload, 1) := by decide +kernel
theorem dX2_levelOf_47 : decode cX2_levelOf 47 = .ok (.imul, 1) := by decide +kernel
theorem dX2_levelOf_48 : decode cX2_levelOf 48 = .ok (.iadd, 1) := by decide +kernel
theorem dX2_levelOf_49 : decode cX2_levelOf 49 = .ok (.istore 6, 2) := by decide +kernel
theorem dX2_levelOf_51 : decode cX2_levelOf 51 = .ok (.iload 6, 2) := by decide +kernel
theorem dX2_levelOf_53 : decode cX2_levelOf 53 = .ok (.aload_n 1, 1) := by decide +kernel
theorem dX2_levelOf_54 : decode cX2_levelOf 54 = .ok (.getfield 121, 3) := by decide +kernel
theorem dX2_levelOf_57 : decode cX2_levelOf 57 = .ok (.getstatic 124, 3) := by decide +kernel
theorem dX2_levelOf_60 : decode cX2_levelOf 60 = .ok (.iload_n 2, 1) := by decide +kernel
theorem dX2_levelOf_61 : decode cX2_levelOf 61 = .ok (.iaload, 1) := by decide +kernel
theorem dX2_levelOf_62 : decode cX2_levelOf 62 = .ok (.iaload, 1) := by decide +kernel
theorem dX2_levelOf_63 : decode cX2_levelOf 63 = .ok (.isub, 1) := by decide +kernel
theorem dX2_levelOf_64 : decode cX2_levelOf 64 = .ok (.ireturn, 1) := by decide +kernel
theorem dX2_mayStrike_0 : decode cX2_mayStrike 0 = .ok (.aload_n 0, 1) := by decide +kernel
theorem dX2_mayStrike_1 : decode cX2_mayStrike 1 = .ok (.getfield 11, 3) := by decide +kernel
theorem dX2_mayStrike_4 : decode cX2_mayStrike 4 = .ok (.iconst 1, 1) := by decide +kernel
theorem dX2_mayStrike_5 : decode cX2_mayStrike 5 = .ok (.aaload, 1) := by decide +kernel
theorem dX2_mayStrike_6 : decode cX2_mayStrike 6 = .ok (.iload_n 2, 1) := by decide +kernel
theorem dX2_mayStrike_7 : decode cX2_mayStrike 7 = .ok (.iaload, 1) := by decide +kernel
theorem dX2_mayStrike_8 : decode cX2_mayStrike 8 = .ok (.istore 4, 2) := by decide +kernel
theorem dX2_mayStrike_10 : decode cX2_mayStrike 10 = .ok (.iload 4, 2) := by decide +kernel
theorem dX2_mayStrike_12 : decode cX2_mayStrike 12 = .ok (.iload_n 3, 1) := by decide +kernel
theorem dX2_mayStrike_13 : decode cX2_mayStrike 13 = .ok (.if_icmp .eq 36, 3) := by decide +kernel
theorem dX2_mayStrike_16 : decode cX2_mayStrike 16 = .ok (.aload_n 0, 1) := by decide +kernel
theorem dX2_mayStrike_17 : decode cX2_mayStrike 17 = .ok (.getfield 11, 3) := by decide +kernel
theorem dX2_mayStrike_20 : decode cX2_mayStrike 20 = .ok (.iconst 2, 1) := by decide +kernel
theorem dX2_mayStrike_21 : decode cX2_mayStrike 21 = .ok (.aaload, 1) := by decide +kernel
theorem dX2_mayStrike_22 : decode cX2_mayStrike 22 = .ok (.iload_n 2, 1) := by decide +kernel
theorem dX2_mayStrike_23 : decode cX2_mayStrike 23 = .ok (.iaload, 1) := by decide +kernel
theorem dX2_mayStrike_24 : decode cX2_mayStrike 24 = .ok (.iload_n 3, 1) := by decide +kernel
theorem dX2_mayStrike_25 : decode cX2_mayStrike 25 = .ok (.if_icmp .eq 24, 3) := by decide +kernel
theorem dX2_mayStrike_28 : decode cX2_mayStrike 28 = .ok (.aload_n 0, 1) := by decide +kernel
theorem dX2_mayStrike_29 : decode cX2_mayStrike 29 = .ok (.getfield 11, 3) := by decide +kernel
theorem dX2_mayStrike_32 : decode cX2_mayStrike 32 = .ok (.iconst 3, 1) := by decide +kernel
theorem dX2_mayStrike_33 : decode cX2_mayStrike 33 = .ok (.aaload, 1) := by decide +kernel
theorem dX2_mayStrike_34 : decode cX2_mayStrike 34 = .ok (.iload_n 2, 1) := by decide +kernel
theorem dX2_mayStrike_35 : decode cX2_mayStrike 35 = .ok (.iaload, 1) := by decide +kernel
theorem dX2_mayStrike_36 : decode cX2_mayStrike 36 = .ok (.iload_n 3, 1) := by decide +kernel
theorem dX2_mayStrike_37 : decode cX2_mayStrike 37 = .ok (.if_icmp .eq 12, 3) := by decide +kernel
theorem dX2_mayStrike_40 : decode cX2_mayStrike 40 = .ok (.aload_n 1, 1) := by decide +kernel
theorem dX2_mayStrike_41 : decode cX2_mayStrike 41 = .ok (.getfield 70, 3) := by decide +kernel
theorem dX2_mayStrike_44 : decode cX2_mayStrike 44 = .ok (.iload_n 3, 1) := by decide +kernel
theorem dX2_mayStrike_45 : decode cX2_mayStrike 45 = .ok (.iaload, 1) := by decide +kernel
theorem dX2_mayStrike_46 : decode cX2_mayStrike 46 = .ok (.ifCond .ne 5, 3) := by decide +kernel
theorem dX2_mayStrike_49 : decode cX2_mayStrike 49 = .ok (.iconst 0, 1) := by decide +kernel
theorem dX2_mayStrike_50 : decode cX2_mayStrike 50 = .ok (.ireturn, 1) := by decide +kernel
theorem dX2_mayStrike_51 : decode cX2_mayStrike 51 = .ok (.aload_n 0, 1) := by decide +kernel
theorem dX2_mayStrike_52 : decode cX2_mayStrike 52 = .ok (.getfield 11, 3) := by decide +kernel
theorem dX2_mayStrike_55 : decode cX2_mayStrike 55 = .ok (.bipush 7, 2) := by decide +kernel
theorem dX2_mayStrike_57 : decode cX2_mayStrike 57 = .ok (.aaload, 1) := by decide +kernel
theorem dX2_mayStrike_58 : decode cX2_mayStrike 58 = .ok (.iload_n 2, 1) := by decide +kernel
theorem dX2_mayStrike_59 : decode cX2_mayStrike 59 = .ok (.iaload, 1) := by decide +kernel
theorem dX2_mayStrike_60 : decode cX2_mayStrike 60 = .ok (.aload_n 1, 1) := by decide +kernel
theorem dX2_mayStrike_61 : decode cX2_mayStrike 61 = .ok (.getfield 92, 3) := by decide +kernel
theorem dX2_mayStrike_64 : decode cX2_mayStrike 64 = .ok (.iload_n 3, 1) := by decide +kernel
theorem dX2_mayStrike_65 : decode cX2_mayStrike 65 = .ok (.iaload, 1) := by decide +kernel
theorem dX2_mayStrike_66 : decode cX2_mayStrike 66 = .ok (.iand, 1) := by decide +kernel
theorem dX2_mayStrike_67 : decode cX2_mayStrike 67 = .ok (.ifCond .eq 39, 3) := by decide +kernel
theorem dX2_mayStrike_70 : decode cX2_mayStrike 70 = .ok (.aload_n 0, 1) := by decide +kernel
theorem dX2_mayStrike_71 : decode cX2_mayStrike 71 = .ok (.getfield 11, 3) := by decide +kernel
theorem dX2_mayStrike_74 : decode cX2_mayStrike 74 = .ok (.iconst 5, 1) := by decide +kernel
theorem dX2_mayStrike_75 : decode cX2_mayStrike 75 = .ok (.aaload, 1) := by decide +kernel
theorem dX2_mayStrike_76 : decode cX2_mayStrike 76 = .ok (.iload_n 2, 1) := by decide +kernel
theorem dX2_mayStrike_77 : decode cX2_mayStrike 77 = .ok (.iaload, 1) := by decide +kernel
theorem dX2_mayStrike_78 : decode cX2_mayStrike 78 = .ok (.aload_n 1, 1) := by decide +kernel
theorem dX2_mayStrike_79 : decode cX2_mayStrike 79 = .ok (.getfield 127, 3) := by decide +kernel
theorem dX2_mayStrike_82 : decode cX2_mayStrike 82 = .ok (.aload_n 1, 1) := by decide +kernel
theorem dX2_mayStrike_83 : decode cX2_mayStrike 83 = .ok (.getfield 73, 3) := by decide +kernel
theorem dX2_mayStrike_86 : decode cX2_mayStrike 86 = .ok (.iload 4, 2) := by decide +kernel
theorem dX2_mayStrike_88 : decode cX2_mayStrike 88 = .ok (.iaload, 1) := by decide +kernel
theorem dX2_mayStrike_89 : decode cX2_mayStrike 89 = .ok (.iconst 3, 1) := by decide +kernel
theorem dX2_mayStrike_90 : decode cX2_mayStrike 90 = .ok (.imul, 1) := by decide +kernel
theorem dX2_mayStrike_91 : decode cX2_mayStrike 91 = .ok (.aload_n 1, 1) := by decide +kernel
theorem dX2_mayStrike_92 : decode cX2_mayStrike 92 = .ok (.getfield 73, 3) := by decide +kernel
theorem dX2_mayStrike_95 : decode cX2_mayStrike 95 = .ok (.iload_n 3, 1) := by decide +kernel
theorem dX2_mayStrike_96 : decode cX2_mayStrike 96 = .ok (.iaload, 1) := by decide +kernel
theorem dX2_mayStrike_97 : decode cX2_mayStrike 97 = .ok (.iadd, 1) := by decide +kernel
theorem dX2_mayStrike_98 : decode cX2_mayStrike 98 = .ok (.iaload, 1) := by decide +kernel
theorem dX2_mayStrike_99 : decode cX2_mayStrike 99 = .ok (.if_icmp .lt 7, 3) := by decide +kernel
theorem dX2_mayStrike_102 : decode cX2_mayStrike 102 = .ok (.iconst 1, 1) := by decide +kernel
theorem dX2_mayStrike_103 : decode cX2_mayStrike 103 = .ok (.goto 4, 3) := by decide +kernel
theorem dX2_mayStrike_106 : decode cX2_mayStrike 106 = .ok (.iconst 0, 1) := by decide +kernel
theorem dX2_mayStrike_107 : decode cX2_mayStrike 107 = .ok (.ireturn, 1) := by decide +kernel
theorem dX2_isIn_0 : decode cX2_isIn 0 = .ok (.aload_n 0, 1) := by decide +kernel
theorem dX2_isIn_1 : decode cX2_isIn 1 = .ok (.getfield 11, 3) := by decide +kernel
theorem dX2_isIn_4 : decode cX2_isIn 4 = .ok (.iconst 1, 1) := by decide +kernel
theorem dX2_isIn_5 : decode cX2_isIn 5 = .ok (.aaload, 1) := by decide +kernel
theorem dX2_isIn_6 : decode cX2_isIn 6 = .ok (.iload_n 1, 1) := by decide +kernel
theorem dX2_isIn_7 : decode cX2_isIn 7 = .ok (.iaload, 1) := by decide +kernel
theorem dX2_isIn_8 : decode cX2_isIn 8 = .ok (.iload_n 2, 1) := by decide +kernel
theorem dX2_isIn_9 : decode cX2_isIn 9 = .ok (.if_icmp .eq 27, 3) := by decide +kernel
theorem dX2_isIn_12 : decode cX2_isIn 12 = .ok (.aload_n 0, 1) := by decide +kernel
theorem dX2_isIn_13 : decode cX2_isIn 13 = .ok (.getfield 11, 3) := by decide +kernel
theorem dX2_isIn_16 : decode cX2_isIn 16 = .ok (.iconst 2, 1) := by decide +kernel
theorem dX2_isIn_17 : decode cX2_isIn 17 = .ok (.aaload, 1) := by decide +kernel
theorem dX2_isIn_18 : decode cX2_isIn 18 = .ok (.iload_n 1, 1) := by decide +kernel
theorem dX2_isIn_19 : decode cX2_isIn 19 = .ok (.iaload, 1) := by decide +kernel
theorem dX2_isIn_20 : decode cX2_isIn 20 = .ok (.iload_n 2, 1) := by decide +kernel
theorem dX2_isIn_21 : decode cX2_isIn 21 = .ok (.if_icmp .eq 15, 3) := by decide +kernel
theorem dX2_isIn_24 : decode cX2_isIn 24 = .ok (.aload_n 0, 1) := by decide +kernel
theorem dX2_isIn_25 : decode cX2_isIn 25 = .ok (.getfield 11, 3) := by decide +kernel
theorem dX2_isIn_28 : decode cX2_isIn 28 = .ok (.iconst 3, 1) := by decide +kernel
theorem dX2_isIn_29 : decode cX2_isIn 29 = .ok (.aaload, 1) := by decide +kernel
theorem dX2_isIn_30 : decode cX2_isIn 30 = .ok (.iload_n 1, 1) := by decide +kernel
theorem dX2_isIn_31 : decode cX2_isIn 31 = .ok (.iaload, 1) := by decide +kernel
theorem dX2_isIn_32 : decode cX2_isIn 32 = .ok (.iload_n 2, 1) := by decide +kernel
theorem dX2_isIn_33 : decode cX2_isIn 33 = .ok (.if_icmp .ne 7, 3) := by decide +kernel
theorem dX2_isIn_36 : decode cX2_isIn 36 = .ok (.iconst 1, 1) := by decide +kernel
theorem dX2_isIn_37 : decode cX2_isIn 37 = .ok (.goto 4, 3) := by decide +kernel
theorem dX2_isIn_40 : decode cX2_isIn 40 = .ok (.iconst 0, 1) := by decide +kernel
theorem dX2_isIn_41 : decode cX2_isIn 41 = .ok (.ireturn, 1) := by decide +kernel
theorem dX2_strikesUser_0 : decode cX2_strikesUser 0 = .ok (.aload_n 0, 1) := by decide +kernel
theorem dX2_strikesUser_1 : decode cX2_strikesUser 1 = .ok (.getfield 11, 3) := by decide +kernel
theorem dX2_strikesUser_4 : decode cX2_strikesUser 4 = .ok (.bipush 6, 2) := by decide +kernel
theorem dX2_strikesUser_6 : decode cX2_strikesUser 6 = .ok (.aaload, 1) := by decide +kernel
theorem dX2_strikesUser_7 : decode cX2_strikesUser 7 = .ok (.iload_n 1, 1) := by decide +kernel
theorem dX2_strikesUser_8 : decode cX2_strikesUser 8 = .ok (.iaload, 1) := by decide +kernel
theorem dX2_strikesUser_9 : decode cX2_strikesUser 9 = .ok (.iload_n 2, 1) := by decide +kernel
theorem dX2_strikesUser_10 : decode cX2_strikesUser 10 = .ok (.ishr, 1) := by decide +kernel
theorem dX2_strikesUser_11 : decode cX2_strikesUser 11 = .ok (.iconst 1, 1) := by decide +kernel
theorem dX2_strikesUser_12 : decode cX2_strikesUser 12 = .ok (.iand, 1) := by decide +kernel
theorem dX2_strikesUser_13 : decode cX2_strikesUser 13 = .ok (.ifCond .eq 7, 3) := by decide +kernel
theorem dX2_strikesUser_16 : decode cX2_strikesUser 16 = .ok (.iconst 1, 1) := by decide +kernel
theorem dX2_strikesUser_17 : decode cX2_strikesUser 17 = .ok (.goto 4, 3) := by decide +kernel
theorem dX2_strikesUser_20 : decode cX2_strikesUser 20 = .ok (.iconst 0, 1) := by decide +kernel
theorem dX2_strikesUser_21 : decode cX2_strikesUser 21 = .ok (.ireturn, 1) := by decide +kernel
theorem dX2_sumOfSort_0 : decode cX2_sumOfSort 0 = .ok (.iconst 0, 1) := by decide +kernel
theorem dX2_sumOfSort_1 : decode cX2_sumOfSort 1 = .ok (.istore_n 3, 1) := by decide +kernel
theorem dX2_sumOfSort_2 : decode cX2_sumOfSort 2 = .ok (.iconst 0, 1) := by decide +kernel
theorem dX2_sumOfSort_3 : decode cX2_sumOfSort 3 = .ok (.istore 4, 2) := by decide +kernel
theorem dX2_sumOfSort_5 : decode cX2_sumOfSort 5 = .ok (.iload 4, 2) := by decide +kernel
theorem dX2_sumOfSort_7 : decode cX2_sumOfSort 7 = .ok (.aload_n 0, 1) := by decide +kernel
theorem dX2_sumOfSort_8 : decode cX2_sumOfSort 8 = .ok (.getfield 16, 3) := by decide +kernel
theorem dX2_sumOfSort_11 : decode cX2_sumOfSort 11 = .ok (.if_icmp .ge 37, 3) := by decide +kernel
theorem dX2_sumOfSort_14 : decode cX2_sumOfSort 14 = .ok (.iload_n 1, 1) := by decide +kernel
theorem dX2_sumOfSort_15 : decode cX2_sumOfSort 15 = .ok (.iconst (-1), 1) := by decide +kernel
theorem dX2_sumOfSort_16 : decode cX2_sumOfSort 16 = .ok (.if_icmp .eq 16, 3) := by decide +kernel
theorem dX2_sumOfSort_19 : decode cX2_sumOfSort 19 = .ok (.aload_n 0, 1) := by decide +kernel
theorem dX2_sumOfSort_20 : decode cX2_sumOfSort 20 = .ok (.getfield 11, 3) := by decide +kernel
theorem dX2_sumOfSort_23 : decode cX2_sumOfSort 23 = .ok (.iconst 0, 1) := by decide +kernel
theorem dX2_sumOfSort_24 : decode cX2_sumOfSort 24 = .ok (.aaload, 1) := by decide +kernel
theorem dX2_sumOfSort_25 : decode cX2_sumOfSort 25 = .ok (.iload 4, 2) := by decide +kernel
theorem dX2_sumOfSort_27 : decode cX2_sumOfSort 27 = .ok (.iaload, 1) := by decide +kernel
theorem dX2_sumOfSort_28 : decode cX2_sumOfSort 28 = .ok (.iload_n 1, 1) := by decide +kernel
theorem dX2_sumOfSort_29 : decode cX2_sumOfSort 29 = .ok (.if_icmp .ne 13, 3) := by decide +kernel
theorem dX2_sumOfSort_32 : decode cX2_sumOfSort 32 = .ok (.iload_n 3, 1) := by decide +kernel
theorem dX2_sumOfSort_33 : decode cX2_sumOfSort 33 = .ok (.aload_n 0, 1) := by decide +kernel
theorem dX2_sumOfSort_34 : decode cX2_sumOfSort 34 = .ok (.iload 4, 2) := by decide +kernel
theorem dX2_sumOfSort_36 : decode cX2_sumOfSort 36 = .ok (.iload_n 2, 1) := by decide +kernel
theorem dX2_sumOfSort_37 : decode cX2_sumOfSort 37 = .ok (.invokevirtual 130, 3) := by decide +kernel
theorem dX2_sumOfSort_40 : decode cX2_sumOfSort 40 = .ok (.iadd, 1) := by decide +kernel
theorem dX2_sumOfSort_41 : decode cX2_sumOfSort 41 = .ok (.istore_n 3, 1) := by decide +kernel
theorem dX2_sumOfSort_42 : decode cX2_sumOfSort 42 = .ok (.iinc 4 1, 3) := by decide +kernel
theorem dX2_sumOfSort_45 : decode cX2_sumOfSort 45 = .ok (.goto (-40), 3) := by decide +kernel
theorem dX2_sumOfSort_48 : decode cX2_sumOfSort 48 = .ok (.iload_n 3, 1) := by decide +kernel
theorem dX2_sumOfSort_49 : decode cX2_sumOfSort 49 = .ok (.ireturn, 1) := by decide +kernel
theorem dX2_share_0 : decode cX2_share 0 = .ok (.iload_n 2, 1) := by decide +kernel
theorem dX2_share_1 : decode cX2_share 1 = .ok (.ifCond .ne 5, 3) := by decide +kernel
theorem dX2_share_4 : decode cX2_share 4 = .ok (.iconst 1, 1) := by decide +kernel
theorem dX2_share_5 : decode cX2_share 5 = .ok (.ireturn, 1) := by decide +kernel
theorem dX2_share_6 : decode cX2_share 6 = .ok (.iload_n 2, 1) := by decide +kernel
theorem dX2_share_7 : decode cX2_share 7 = .ok (.iconst 1, 1) := by decide +kernel
theorem dX2_share_8 : decode cX2_share 8 = .ok (.if_icmp .ne 20, 3) := by decide +kernel
theorem dX2_share_11 : decode cX2_share 11 = .ok (.aload_n 0, 1) := by decide +kernel
theorem dX2_share_12 : decode cX2_share 12 = .ok (.getfield 11, 3) := by decide +kernel
theorem dX2_share_15 : decode cX2_share 15 = .ok (.iconst 5, 1) := by decide +kernel
theorem dX2_share_16 : decode cX2_share 16 = .ok (.aaload, 1) := by decide +kernel
theorem dX2_share_17 : decode cX2_share 17 = .ok (.iload_n 1, 1) := by decide +kernel
theorem dX2_share_18 : decode cX2_share 18 = .ok (.iaload, 1) := by decide +kernel
theorem dX2_share_19 : decode cX2_share 19 = .ok (.ifCond .lt 7, 3) := by decide +kernel
theorem dX2_share_22 : decode cX2_share 22 = .ok (.iconst 1, 1) := by decide +kernel
theorem dX2_share_23 : decode cX2_share 23 = .ok (.goto 4, 3) := by decide +kernel
theorem dX2_share_26 : decode cX2_share 26 = .ok (.iconst 0, 1) := by decide +kernel
theorem dX2_share_27 : decode cX2_share 27 = .ok (.ireturn, 1) := by decide +kernel
theorem dX2_share_28 : decode cX2_share 28 = .ok (.aload_n 0, 1) := by decide +kernel
theorem dX2_share_29 : decode cX2_share 29 = .ok (.getfield 11, 3) := by decide +kernel
theorem dX2_share_32 : decode cX2_share 32 = .ok (.bipush 6, 2) := by decide +kernel
theorem dX2_share_34 : decode cX2_share 34 = .ok (.aaload, 1) := by decide +kernel
theorem dX2_share_35 : decode cX2_share 35 = .ok (.iload_n 1, 1) := by decide +kernel
theorem dX2_share_36 : decode cX2_share 36 = .ok (.iaload, 1) := by decide +kernel
theorem dX2_share_37 : decode cX2_share 37 = .ok (.invokestatic 134, 3) := by decide +kernel
theorem dX2_share_40 : decode cX2_share 40 = .ok (.ireturn, 1) := by decide +kernel
theorem dX2_strikesOn_0 : decode cX2_strikesOn 0 = .ok (.iconst 0, 1) := by decide +kernel
theorem dX2_strikesOn_1 : decode cX2_strikesOn 1 = .ok (.istore_n 2, 1) := by decide +kernel
theorem dX2_strikesOn_2 : decode cX2_strikesOn 2 = .ok (.iconst 0, 1) := by decide +kernel
theorem dX2_strikesOn_3 : decode cX2_strikesOn 3 = .ok (.istore_n 3, 1) := by decide +kernel
theorem dX2_strikesOn_4 : decode cX2_strikesOn 4 = .ok (.iload_n 3, 1) := by decide +kernel
theorem dX2_strikesOn_5 : decode cX2_strikesOn 5 = .ok (.aload_n 0, 1) := by decide +kernel
theorem dX2_strikesOn_6 : decode cX2_strikesOn 6 = .ok (.getfield 16, 3) := by decide +kernel
theorem dX2_strikesOn_9 : decode cX2_strikesOn 9 = .ok (.if_icmp .ge 21, 3) := by decide +kernel
theorem dX2_strikesOn_12 : decode cX2_strikesOn 12 = .ok (.aload_n 0, 1) := by decide +kernel
theorem dX2_strikesOn_13 : decode cX2_strikesOn 13 = .ok (.iload_n 3, 1) := by decide +kernel
theorem dX2_strikesOn_14 : decode cX2_strikesOn 14 = .ok (.iload_n 1, 1) := by decide +kernel
theorem dX2_strikesOn_15 : decode cX2_strikesOn 15 = .ok (.invokevirtual 139, 3) := by decide +kernel
theorem dX2_strikesOn_18 : decode cX2_strikesOn 18 = .ok (.ifCond .eq 6, 3) := by decide +kernel
theorem dX2_strikesOn_21 : decode cX2_strikesOn 21 = .ok (.iinc 2 1, 3) := by decide +kernel
theorem dX2_strikesOn_24 : decode cX2_strikesOn 24 = .ok (.iinc 3 1, 3) := by decide +kernel
theorem dX2_strikesOn_27 : decode cX2_strikesOn 27 = .ok (.goto (-23), 3) := by decide +kernel
theorem dX2_strikesOn_30 : decode cX2_strikesOn 30 = .ok (.iload_n 2, 1) := by decide +kernel
theorem dX2_strikesOn_31 : decode cX2_strikesOn 31 = .ok (.ireturn, 1) := by decide +kernel
theorem dX2_placeOfStrikeOn_0 : decode cX2_placeOfStrikeOn 0 = .ok (.iconst 0, 1) := by decide +kernel
theorem dX2_placeOfStrikeOn_1 : decode cX2_placeOfStrikeOn 1 = .ok (.istore_n 3, 1) := by decide +kernel
theorem dX2_placeOfStrikeOn_2 : decode cX2_placeOfStrikeOn 2 = .ok (.iconst 0, 1) := by decide +kernel
theorem dX2_placeOfStrikeOn_3 : decode cX2_placeOfStrikeOn 3 = .ok (.istore 4, 2) := by decide +kernel
theorem dX2_placeOfStrikeOn_5 : decode cX2_placeOfStrikeOn 5 = .ok (.iload 4, 2) := by decide +kernel
theorem dX2_placeOfStrikeOn_7 : decode cX2_placeOfStrikeOn 7 = .ok (.aload_n 0, 1) := by decide +kernel
theorem dX2_placeOfStrikeOn_8 : decode cX2_placeOfStrikeOn 8 = .ok (.getfield 16, 3) := by decide +kernel
theorem dX2_placeOfStrikeOn_11 : decode cX2_placeOfStrikeOn 11 = .ok (.if_icmp .ge 30, 3) := by decide +kernel
theorem dX2_placeOfStrikeOn_14 : decode cX2_placeOfStrikeOn 14 = .ok (.aload_n 0, 1) := by decide +kernel
theorem dX2_placeOfStrikeOn_15 : decode cX2_placeOfStrikeOn 15 = .ok (.iload 4, 2) := by decide +kernel
theorem dX2_placeOfStrikeOn_17 : decode cX2_placeOfStrikeOn 17 = .ok (.iload_n 1, 1) := by decide +kernel
theorem dX2_placeOfStrikeOn_18 : decode cX2_placeOfStrikeOn 18 = .ok (.invokevirtual 139, 3) := by decide +kernel
theorem dX2_placeOfStrikeOn_21 : decode cX2_placeOfStrikeOn 21 = .ok (.ifCond .eq 14, 3) := by decide +kernel
theorem dX2_placeOfStrikeOn_24 : decode cX2_placeOfStrikeOn 24 = .ok (.iload_n 3, 1) := by decide +kernel
theorem dX2_placeOfStrikeOn_25 : decode cX2_placeOfStrikeOn 25 = .ok (.iload_n 2, 1) := by decide +kernel
theorem dX2_placeOfStrikeOn_26 : decode cX2_placeOfStrikeOn 26 = .ok (.if_icmp .ne 6, 3) := by decide +kernel
theorem dX2_placeOfStrikeOn_29 : decode cX2_placeOfStrikeOn 29 = .ok (.iload 4, 2) := by decide +kernel
theorem dX2_placeOfStrikeOn_31 : decode cX2_placeOfStrikeOn 31 = .ok (.ireturn, 1) := by decide +kernel
theorem dX2_placeOfStrikeOn_32 : decode cX2_placeOfStrikeOn 32 = .ok (.iinc 3 1, 3) := by decide +kernel
theorem dX2_placeOfStrikeOn_35 : decode cX2_placeOfStrikeOn 35 = .ok (.iinc 4 1, 3) := by decide +kernel
theorem dX2_placeOfStrikeOn_38 : decode cX2_placeOfStrikeOn 38 = .ok (.goto (-33), 3) := by decide +kernel
theorem dX2_placeOfStrikeOn_41 : decode cX2_placeOfStrikeOn 41 = .ok (.bipush (-2), 2) := by decide +kernel
theorem dX2_placeOfStrikeOn_43 : decode cX2_placeOfStrikeOn 43 = .ok (.ireturn, 1) := by decide +kernel
theorem dX2_placeOfLoudest_0 : decode cX2_placeOfLoudest 0 = .ok (.bipush (-2), 2) := by decide +kernel
theorem dX2_placeOfLoudest_2 : decode cX2_placeOfLoudest 2 = .ok (.istore_n 1, 1) := by decide +kernel
theorem dX2_placeOfLoudest_3 : decode cX2_placeOfLoudest 3 = .ok (.iconst 0, 1) := by decide +kernel
theorem dX2_placeOfLoudest_4 : decode cX2_placeOfLoudest 4 = .ok (.istore_n 2, 1) := by decide +kernel
theorem dX2_placeOfLoudest_5 : decode cX2_placeOfLoudest 5 = .ok (.iload_n 2, 1) := by decide +kernel
theorem dX2_placeOfLoudest_6 : decode cX2_placeOfLoudest 6 = .ok (.aload_n 0, 1) := by decide +kernel
theorem dX2_placeOfLoudest_7 : decode cX2_placeOfLoudest 7 = .ok (.getfield 16, 3) := by decide +kernel
theorem dX2_placeOfLoudest_10 : decode cX2_placeOfLoudest 10 = .ok (.if_icmp .ge 46, 3) := by decide +kernel
theorem dX2_placeOfLoudest_13 : decode cX2_placeOfLoudest 13 = .ok (.aload_n 0, 1) := by decide +kernel
theorem dX2_placeOfLoudest_14 : decode cX2_placeOfLoudest 14 = .ok (.getfield 11, 3) := by decide +kernel
theorem dX2_placeOfLoudest_17 : decode cX2_placeOfLoudest 17 = .ok (.bipush 6, 2) := by decide +kernel
theorem dX2_placeOfLoudest_19 : decode cX2_placeOfLoudest 19 = .ok (.aaload, 1) := by decide +kernel
theorem dX2_placeOfLoudest_20 : decode cX2_placeOfLoudest 20 = .ok (.iload_n 2, 1) := by decide +kernel
theorem dX2_placeOfLoudest_21 : decode cX2_placeOfLoudest 21 = .ok (.iaload, 1) := by decide +kernel
theorem dX2_placeOfLoudest_22 : decode cX2_placeOfLoudest 22 = .ok (.ifCond .eq 28, 3) := by decide +kernel
theorem dX2_placeOfLoudest_25 : decode cX2_placeOfLoudest 25 = .ok (.iload_n 1, 1) := by decide +kernel
theorem dX2_placeOfLoudest_26 : decode cX2_placeOfLoudest 26 = .ok (.ifCond .lt 22, 3) := by decide +kernel
theorem dX2_placeOfLoudest_29 : decode cX2_placeOfLoudest 29 = .ok (.aload_n 0, 1) := by decide +kernel
theorem dX2_placeOfLoudest_30 : decode cX2_placeOfLoudest 30 = .ok (.getfield 11, 3) := by decide +kernel
theorem dX2_placeOfLoudest_33 : decode cX2_placeOfLoudest 33 = .ok (.iconst 5, 1) := by decide +kernel
theorem dX2_placeOfLoudest_34 : decode cX2_placeOfLoudest 34 = .ok (.aaload, 1) := by decide +kernel
theorem dX2_placeOfLoudest_35 : decode cX2_placeOfLoudest 35 = .ok (.iload_n 2, 1) := by decide +kernel
theorem dX2_placeOfLoudest_36 : decode cX2_placeOfLoudest 36 = .ok (.iaload, 1) := by decide +kernel
theorem dX2_placeOfLoudest_37 : decode cX2_placeOfLoudest 37 = .ok (.aload_n 0, 1) := by decide +kernel
theorem dX2_placeOfLoudest_38 : decode cX2_placeOfLoudest 38 = .ok (.getfield 11, 3) := by decide +kernel
theorem dX2_placeOfLoudest_41 : decode cX2_placeOfLoudest 41 = .ok (.iconst 5, 1) := by decide +kernel
theorem dX2_placeOfLoudest_42 : decode cX2_placeOfLoudest 42 = .ok (.aaload, 1) := by decide +kernel
theorem dX2_placeOfLoudest_43 : decode cX2_placeOfLoudest 43 = .ok (.iload_n 1, 1) := by decide +kernel
theorem dX2_placeOfLoudest_44 : decode cX2_placeOfLoudest 44 = .ok (.iaload, 1) := by decide +kernel
theorem dX2_placeOfLoudest_45 : decode cX2_placeOfLoudest 45 = .ok (.if_icmp .le 5, 3) := by decide +kernel
theorem dX2_placeOfLoudest_48 : decode cX2_placeOfLoudest 48 = .ok (.iload_n 2, 1) := by decide +kernel
theorem dX2_placeOfLoudest_49 : decode cX2_placeOfLoudest 49 = .ok (.istore_n 1, 1) := by decide +kernel
theorem dX2_placeOfLoudest_50 : decode cX2_placeOfLoudest 50 = .ok (.iinc 2 1, 3) := by decide +kernel
theorem dX2_placeOfLoudest_53 : decode cX2_placeOfLoudest 53 = .ok (.goto (-48), 3) := by decide +kernel
theorem dX2_placeOfLoudest_56 : decode cX2_placeOfLoudest 56 = .ok (.iload_n 1, 1) := by decide +kernel
theorem dX2_placeOfLoudest_57 : decode cX2_placeOfLoudest 57 = .ok (.ireturn, 1) := by decide +kernel
theorem dX2_slotsOfStrikesOn_0 : decode cX2_slotsOfStrikesOn 0 = .ok (.iconst 0, 1) := by decide +kernel
theorem dX2_slotsOfStrikesOn_1 : decode cX2_slotsOfStrikesOn 1 = .ok (.istore_n 2, 1) := by decide +kernel
theorem dX2_slotsOfStrikesOn_2 : decode cX2_slotsOfStrikesOn 2 = .ok (.iconst 0, 1) := by decide +kernel
theorem dX2_slotsOfStrikesOn_3 : decode cX2_slotsOfStrikesOn 3 = .ok (.istore_n 3, 1) := by decide +kernel
theorem dX2_slotsOfStrikesOn_4 : decode cX2_slotsOfStrikesOn 4 = .ok (.iload_n 3, 1) := by decide +kernel
theorem dX2_slotsOfStrikesOn_5 : decode cX2_slotsOfStrikesOn 5 = .ok (.aload_n 0, 1) := by decide +kernel
theorem dX2_slotsOfStrikesOn_6 : decode cX2_slotsOfStrikesOn 6 = .ok (.getfield 16, 3) := by decide +kernel
theorem dX2_slotsOfStrikesOn_9 : decode cX2_slotsOfStrikesOn 9 = .ok (.if_icmp .ge 30, 3) := by decide +kernel
theorem dX2_slotsOfStrikesOn_12 : decode cX2_slotsOfStrikesOn 12 = .ok (.aload_n 0, 1) := by decide +kernel
theorem dX2_slotsOfStrikesOn_13 : decode cX2_slotsOfStrikesOn 13 = .ok (.iload_n 3, 1) := by decide +kernel
theorem dX2_slotsOfStrikesOn_14 : decode cX2_slotsOfStrikesOn 14 = .ok (.iload_n 1, 1) := by decide +kernel
theorem dX2_slotsOfStrikesOn_15 : decode cX2_slotsOfStrikesOn 15 = .ok (.invokevirtual 139, 3) := by decide +kernel
theorem dX2_slotsOfStrikesOn_18 : decode cX2_slotsOfStrikesOn 18 = .ok (.ifCond .eq 15, 3) := by decide +kernel
theorem dX2_slotsOfStrikesOn_21 : decode cX2_slotsOfStrikesOn 21 = .ok (.iload_n 2, 1) := by decide +kernel
theorem dX2_slotsOfStrikesOn_22 : decode cX2_slotsOfStrikesOn 22 = .ok (.aload_n 0, 1) := by decide +kernel
theorem dX2_slotsOfStrikesOn_23 : decode cX2_slotsOfStrikesOn 23 = .ok (.getfield 11, 3) := by decide +kernel
theorem dX2_slotsOfStrikesOn_26 : decode cX2_slotsOfStrikesOn 26 = .ok (.bipush 7, 2) := by decide +kernel
theorem dX2_slotsOfStrikesOn_28 : decode cX2_slotsOfStrikesOn 28 = .ok (.aaload, 1) := by decide +kernel
theorem dX2_slotsOfStrikesOn_29 : decode cX2_slotsOfStrikesOn 29 = .ok (.iload_n 3, 1) := by decide +kernel
theorem dX2_slotsOfStrikesOn_30 : decode cX2_slotsOfStrikesOn 30 = .ok (.iaload, 1) := by decide +kernel
theorem dX2_slotsOfStrikesOn_31 : decode cX2_slotsOfStrikesOn 31 = .ok (.ior, 1) := by decide +kernel
theorem dX2_slotsOfStrikesOn_32 : decode cX2_slotsOfStrikesOn 32 = .ok (.istore_n 2, 1) := by decide +kernel
theorem dX2_slotsOfStrikesOn_33 : decode cX2_slotsOfStrikesOn 33 = .ok (.iinc 3 1, 3) := by decide +kernel
theorem dX2_slotsOfStrikesOn_36 : decode cX2_slotsOfStrikesOn 36 = .ok (.goto (-32), 3) := by decide +kernel
theorem dX2_slotsOfStrikesOn_39 : decode cX2_slotsOfStrikesOn 39 = .ok (.iload_n 2, 1) := by decide +kernel
theorem dX2_slotsOfStrikesOn_40 : decode cX2_slotsOfStrikesOn 40 = .ok (.ireturn, 1) := by decide +kernel
theorem dX2_nearestDistance_0 : decode cX2_nearestDistance 0 = .ok (.bipush (-2), 2) := by decide +kernel
theorem dX2_nearestDistance_2 : decode cX2_nearestDistance 2 = .ok (.istore_n 3, 1) := by decide +kernel
theorem dX2_nearestDistance_3 : decode cX2_nearestDistance 3 = .ok (.iconst 0, 1) := by decide +kernel
theorem dX2_nearestDistance_4 : decode cX2_nearestDistance 4 = .ok (.istore 4, 2) := by decide +kernel
theorem dX2_nearestDistance_6 : decode cX2_nearestDistance 6 = .ok (.iload 4, 2) := by decide +kernel
theorem dX2_nearestDistance_8 : decode cX2_nearestDistance 8 = .ok (.aload_n 0, 1) := by decide +kernel
theorem dX2_nearestDistance_9 : decode cX2_nearestDistance 9 = .ok (.getfield 16, 3) := by decide +kernel
theorem dX2_nearestDistance_12 : decode cX2_nearestDistance 12 = .ok (.if_icmp .ge 54, 3) := by decide +kernel
theorem dX2_nearestDistance_15 : decode cX2_nearestDistance 15 = .ok (.aload_n 0, 1) := by decide +kernel
theorem dX2_nearestDistance_16 : decode cX2_nearestDistance 16 = .ok (.aload_n 1, 1) := by decide +kernel
theorem dX2_nearestDistance_17 : decode cX2_nearestDistance 17 = .ok (.iload 4, 2) := by decide +kernel
theorem dX2_nearestDistance_19 : decode cX2_nearestDistance 19 = .ok (.iload_n 2, 1) := by decide +kernel
theorem dX2_nearestDistance_20 : decode cX2_nearestDistance 20 = .ok (.invokevirtual 108, 3) := by decide +kernel
theorem dX2_nearestDistance_23 : decode cX2_nearestDistance 23 = .ok (.ifCond .eq 37, 3) := by decide +kernel
theorem dX2_nearestDistance_26 : decode cX2_nearestDistance 26 = .ok (.aload_n 0, 1) := by decide +kernel
theorem dX2_nearestDistance_27 : decode cX2_nearestDistance 27 = .ok (.getfield 11, 3) := by decide +kernel
theorem dX2_nearestDistance_30 : decode cX2_nearestDistance 30 = .ok (.iconst 4, 1) := by decide +kernel
theorem dX2_nearestDistance_31 : decode cX2_nearestDistance 31 = .ok (.aaload, 1) := by decide +kernel
theorem dX2_nearestDistance_32 : decode cX2_nearestDistance 32 = .ok (.iload 4, 2) := by decide +kernel
theorem dX2_nearestDistance_34 : decode cX2_nearestDistance 34 = .ok (.iaload, 1) := by decide +kernel
theorem dX2_nearestDistance_35 : decode cX2_nearestDistance 35 = .ok (.aload_n 1, 1) := by decide +kernel
theorem dX2_nearestDistance_36 : decode cX2_nearestDistance 36 = .ok (.getfield 70, 3) := by decide +kernel
theorem dX2_nearestDistance_39 : decode cX2_nearestDistance 39 = .ok (.iload_n 2, 1) := by decide +kernel
theorem dX2_nearestDistance_40 : decode cX2_nearestDistance 40 = .ok (.iaload, 1) := by decide +kernel
theorem dX2_nearestDistance_41 : decode cX2_nearestDistance 41 = .ok (.isub, 1) := by decide +kernel
theorem dX2_nearestDistance_42 : decode cX2_nearestDistance 42 = .ok (.invokestatic 99, 3) := by decide +kernel
theorem dX2_nearestDistance_45 : decode cX2_nearestDistance 45 = .ok (.istore 5, 2) := by decide +kernel
theorem dX2_nearestDistance_47 : decode cX2_nearestDistance 47 = .ok (.iload_n 3, 1) := by decide +kernel
theorem dX2_nearestDistance_48 : decode cX2_nearestDistance 48 = .ok (.ifCond .lt 9, 3) := by decide +kernel
theorem dX2_nearestDistance_51 : decode cX2_nearestDistance 51 = .ok (.iload 5, 2) := by decide +kernel
theorem dX2_nearestDistance_53 : decode cX2_nearestDistance 53 = .ok (.iload_n 3, 1) := by decide +kernel
theorem dX2_nearestDistance_54 : decode cX2_nearestDistance 54 = .ok (.if_icmp .ge 6, 3) := by decide +kernel
theorem dX2_nearestDistance_57 : decode cX2_nearestDistance 57 = .ok (.iload 5, 2) := by decide +kernel
theorem dX2_nearestDistance_59 : decode cX2_nearestDistance 59 = .ok (.istore_n 3, 1) := by decide +kernel
theorem dX2_nearestDistance_60 : decode cX2_nearestDistance 60 = .ok (.iinc 4 1, 3) := by decide +kernel
theorem dX2_nearestDistance_63 : decode cX2_nearestDistance 63 = .ok (.goto (-57), 3) := by decide +kernel
theorem dX2_nearestDistance_66 : decode cX2_nearestDistance 66 = .ok (.iload_n 3, 1) := by decide +kernel
theorem dX2_nearestDistance_67 : decode cX2_nearestDistance 67 = .ok (.ireturn, 1) := by decide +kernel
theorem dX2_strikesMadeBy_0 : decode cX2_strikesMadeBy 0 = .ok (.iconst 0, 1) := by decide +kernel
theorem dX2_strikesMadeBy_1 : decode cX2_strikesMadeBy 1 = .ok (.istore_n 2, 1) := by decide +kernel
theorem dX2_strikesMadeBy_2 : decode cX2_strikesMadeBy 2 = .ok (.iconst 0, 1) := by decide +kernel
theorem dX2_strikesMadeBy_3 : decode cX2_strikesMadeBy 3 = .ok (.istore_n 3, 1) := by decide +kernel
theorem dX2_strikesMadeBy_4 : decode cX2_strikesMadeBy 4 = .ok (.iload_n 3, 1) := by decide +kernel
theorem dX2_strikesMadeBy_5 : decode cX2_strikesMadeBy 5 = .ok (.aload_n 0, 1) := by decide +kernel
theorem dX2_strikesMadeBy_6 : decode cX2_strikesMadeBy 6 = .ok (.getfield 16, 3) := by decide +kernel
theorem dX2_strikesMadeBy_9 : decode cX2_strikesMadeBy 9 = .ok (.if_icmp .ge 33, 3) := by decide +kernel
theorem dX2_strikesMadeBy_12 : decode cX2_strikesMadeBy 12 = .ok (.aload_n 0, 1) := by decide +kernel
theorem dX2_strikesMadeBy_13 : decode cX2_strikesMadeBy 13 = .ok (.iload_n 3, 1) := by decide +kernel
theorem dX2_strikesMadeBy_14 : decode cX2_strikesMadeBy 14 = .ok (.iload_n 1, 1) := by decide +kernel
theorem dX2_strikesMadeBy_15 : decode cX2_strikesMadeBy 15 = .ok (.invokevirtual 143, 3) := by decide +kernel
theorem dX2_strikesMadeBy_18 : decode cX2_strikesMadeBy 18 = .ok (.ifCond .eq 18, 3) := by decide +kernel
theorem dX2_strikesMadeBy_21 : decode cX2_strikesMadeBy 21 = .ok (.iload_n 2, 1) := by decide +kernel
theorem dX2_strikesMadeBy_22 : decode cX2_strikesMadeBy 22 = .ok (.aload_n 0, 1) := by decide +kernel
theorem dX2_strikesMadeBy_23 : decode cX2_strikesMadeBy 23 = .ok (.getfield 11, 3) := by decide +kernel
theorem dX2_strikesMadeBy_26 : decode cX2_strikesMadeBy 26 = .ok (.bipush 6, 2) := by decide +kernel
theorem dX2_strikesMadeBy_28 : decode cX2_strikesMadeBy 28 = .ok (.aaload, 1) := by decide +kernel
theorem dX2_strikesMadeBy_29 : decode cX2_strikesMadeBy 29 = .ok (.iload_n 3, 1) := by decide +kernel
theorem dX2_strikesMadeBy_30 : decode cX2_strikesMadeBy 30 = .ok (.iaload, 1) := by decide +kernel
theorem dX2_strikesMadeBy_31 : decode cX2_strikesMadeBy 31 = .ok (.invokestatic 134, 3) := by decide +kernel
theorem dX2_strikesMadeBy_34 : decode cX2_strikesMadeBy 34 = .ok (.iadd, 1) := by decide +kernel
theorem dX2_strikesMadeBy_35 : decode cX2_strikesMadeBy 35 = .ok (.istore_n 2, 1) := by decide +kernel
theorem dX2_strikesMadeBy_36 : decode cX2_strikesMadeBy 36 = .ok (.iinc 3 1, 3) := by decide +kernel
theorem dX2_strikesMadeBy_39 : decode cX2_strikesMadeBy 39 = .ok (.goto (-35), 3) := by decide +kernel
theorem dX2_strikesMadeBy_42 : decode cX2_strikesMadeBy 42 = .ok (.iload_n 2, 1) := by decide +kernel
theorem dX2_strikesMadeBy_43 : decode cX2_strikesMadeBy 43 = .ok (.ireturn, 1) := by decide +kernel
theorem dX2_worstMaker_0 : decode cX2_worstMaker 0 = .ok (.bipush (-2), 2) := by decide +kernel
theorem dX2_worstMaker_2 : decode cX2_worstMaker 2 = .ok (.istore_n 2, 1) := by decide +kernel
theorem dX2_worstMaker_3 : decode cX2_worstMaker 3 = .ok (.iconst 0, 1) := by decide +kernel
theorem dX2_worstMaker_4 : decode cX2_worstMaker 4 = .ok (.istore_n 3, 1) := by decide +kernel
theorem dX2_worstMaker_5 : decode cX2_worstMaker 5 = .ok (.iconst 0, 1) := by decide +kernel
theorem dX2_worstMaker_6 : decode cX2_worstMaker 6 = .ok (.istore 4, 2) := by decide +kernel
theorem dX2_worstMaker_8 : decode cX2_worstMaker 8 = .ok (.iload 4, 2) := by decide +kernel
theorem dX2_worstMaker_10 : decode cX2_worstMaker 10 = .ok (.iload_n 1, 1) := by decide +kernel
theorem dX2_worstMaker_11 : decode cX2_worstMaker 11 = .ok (.if_icmp .ge 29, 3) := by decide +kernel
theorem dX2_worstMaker_14 : decode cX2_worstMaker 14 = .ok (.aload_n 0, 1) := by decide +kernel
theorem dX2_worstMaker_15 : decode cX2_worstMaker 15 = .ok (.iload 4, 2) := by decide +kernel
theorem dX2_worstMaker_17 : decode cX2_worstMaker 17 = .ok (.invokevirtual 146, 3) := by decide +kernel
theorem dX2_worstMaker_20 : decode cX2_worstMaker 20 = .ok (.istore 5, 2) := by decide +kernel
theorem dX2_worstMaker_22 : decode cX2_worstMaker 22 = .ok (.iload 5, 2) := by decide +kernel
theorem dX2_worstMaker_24 : decode cX2_worstMaker 24 = .ok (.iload_n 3, 1) := by decide +kernel
theorem dX2_worstMaker_25 : decode cX2_worstMaker 25 = .ok (.if_icmp .le 9, 3) := by decide +kernel
theorem dX2_worstMaker_28 : decode cX2_worstMaker 28 = .ok (.iload 4, 2) := by decide +kernel
theorem dX2_worstMaker_30 : decode cX2_worstMaker 30 = .ok (.istore_n 2, 1) := by decide +kernel
theorem dX2_worstMaker_31 : decode cX2_worstMaker 31 = .ok (.iload 5, 2) := by decide +kernel
theorem dX2_worstMaker_33 : decode cX2_worstMaker 33 = .ok (.istore_n 3, 1) := by decide +kernel
theorem dX2_worstMaker_34 : decode cX2_worstMaker 34 = .ok (.iinc 4 1, 3) := by decide +kernel
theorem dX2_worstMaker_37 : decode cX2_worstMaker 37 = .ok (.goto (-29), 3) := by decide +kernel
theorem dX2_worstMaker_40 : decode cX2_worstMaker 40 = .ok (.iload_n 2, 1) := by decide +kernel
theorem dX2_worstMaker_41 : decode cX2_worstMaker 41 = .ok (.ireturn, 1) := by decide +kernel
theorem dX2_makersAhead_0 : decode cX2_makersAhead 0 = .ok (.aload_n 0, 1) := by decide +kernel
theorem dX2_makersAhead_1 : decode cX2_makersAhead 1 = .ok (.iload_n 1, 1) := by decide +kernel
theorem dX2_makersAhead_2 : decode cX2_makersAhead 2 = .ok (.invokevirtual 146, 3) := by decide +kernel
theorem dX2_makersAhead_5 : decode cX2_makersAhead 5 = .ok (.istore_n 3, 1) := by decide +kernel
theorem dX2_makersAhead_6 : decode cX2_makersAhead 6 = .ok (.iconst 0, 1) := by decide +kernel
theorem dX2_makersAhead_7 : decode cX2_makersAhead 7 = .ok (.istore 4, 2) := by decide +kernel
theorem dX2_makersAhead_9 : decode cX2_makersAhead 9 = .ok (.iconst 0, 1) := by decide +kernel
theorem dX2_makersAhead_10 : decode cX2_makersAhead 10 = .ok (.istore 5, 2) := by decide +kernel
theorem dX2_makersAhead_12 : decode cX2_makersAhead 12 = .ok (.iload 5, 2) := by decide +kernel
theorem dX2_makersAhead_14 : decode cX2_makersAhead 14 = .ok (.iload_n 2, 1) := by decide +kernel
theorem dX2_makersAhead_15 : decode cX2_makersAhead 15 = .ok (.if_icmp .ge 38, 3) := by decide +kernel
theorem dX2_makersAhead_18 : decode cX2_makersAhead 18 = .ok (.aload_n 0, 1) := by decide +kernel
theorem dX2_makersAhead_19 : decode cX2_makersAhead 19 = .ok (.iload 5, 2) := by decide +kernel
theorem dX2_makersAhead_21 : decode cX2_makersAhead 21 = .ok (.invokevirtual 146, 3) := by decide +kernel
theorem dX2_makersAhead_24 : decode cX2_makersAhead 24 = .ok (.istore 6, 2) := by decide +kernel
theorem dX2_makersAhead_26 : decode cX2_makersAhead 26 = .ok (.iload 6, 2) := by decide +kernel
theorem dX2_makersAhead_28 : decode cX2_makersAhead 28 = .ok (.iload_n 3, 1) := by decide +kernel
theorem dX2_makersAhead_29 : decode cX2_makersAhead 29 = .ok (.if_icmp .gt 15, 3) := by decide +kernel
theorem dX2_makersAhead_32 : decode cX2_makersAhead 32 = .ok (.iload 6, 2) := by decide +kernel
theorem dX2_makersAhead_34 : decode cX2_makersAhead 34 = .ok (.iload_n 3, 1) := by decide +kernel
theorem dX2_makersAhead_35 : decode cX2_makersAhead 35 = .ok (.if_icmp .ne 12, 3) := by decide +kernel
theorem dX2_makersAhead_38 : decode cX2_makersAhead 38 = .ok (.iload 5, 2) := by decide +kernel
theorem dX2_makersAhead_40 : decode cX2_makersAhead 40 = .ok (.iload_n 1, 1) := by decide +kernel
theorem dX2_makersAhead_41 : decode cX2_makersAhead 41 = .ok (.if_icmp .ge 6, 3) := by decide +kernel
theorem dX2_makersAhead_44 : decode cX2_makersAhead 44 = .ok (.iinc 4 1, 3) := by decide +kernel
theorem dX2_makersAhead_47 : decode cX2_makersAhead 47 = .ok (.iinc 5 1, 3) := by decide +kernel
theorem dX2_makersAhead_50 : decode cX2_makersAhead 50 = .ok (.goto (-38), 3) := by decide +kernel
theorem dX2_makersAhead_53 : decode cX2_makersAhead 53 = .ok (.iload 4, 2) := by decide +kernel
theorem dX2_makersAhead_55 : decode cX2_makersAhead 55 = .ok (.ireturn, 1) := by decide +kernel
theorem dX3_init_0 : decode cX3_init 0 = .ok (.aload_n 0, 1) := by decide +kernel
theorem dX3_init_1 : decode cX3_init 1 = .ok (.invokespecial 5, 3) := by decide +kernel
theorem dX3_init_4 : decode cX3_init 4 = .ok (.aload_n 0, 1) := by decide +kernel
theorem dX3_init_5 : decode cX3_init 5 = .ok (.new 11, 3) := by decide +kernel
theorem dX3_init_8 : decode cX3_init 8 = .ok (.dup, 1) := by decide +kernel
theorem dX3_init_9 : decode cX3_init 9 = .ok (.invokespecial 13, 3) := by decide +kernel
theorem dX3_init_12 : decode cX3_init 12 = .ok (.putfield 14, 3) := by decide +kernel
theorem dX3_init_15 : decode cX3_init 15 = .ok (.aload_n 0, 1) := by decide +kernel
theorem dX3_init_16 : decode cX3_init 16 = .ok (.iconst 0, 1) := by decide +kernel
theorem dX3_init_17 : decode cX3_init 17 = .ok (.putfield 18, 3) := by decide +kernel
theorem dX3_init_20 : decode cX3_init 20 = .ok (.aload_n 0, 1) := by decide +kernel
theorem dX3_init_21 : decode cX3_init 21 = .ok (.iconst 0, 1) := by decide +kernel
theorem dX3_init_22 : decode cX3_init 22 = .ok (.putfield 22, 3) := by decide +kernel
theorem dX3_init_25 : decode cX3_init 25 = .ok (.aload_n 0, 1) := by decide +kernel
theorem dX3_init_26 : decode cX3_init 26 = .ok (.iconst 0, 1) := by decide +kernel
theorem dX3_init_27 : decode cX3_init 27 = .ok (.putfield 25, 3) := by decide +kernel
theorem dX3_init_30 : decode cX3_init 30 = .ok (.aload_n 0, 1) := by decide +kernel
theorem dX3_init_31 : decode cX3_init 31 = .ok (.iconst 0, 1) := by decide +kernel
theorem dX3_init_32 : decode cX3_init 32 = .ok (.putfield 28, 3) := by decide +kernel
theorem dX3_init_35 : decode cX3_init 35 = .ok (.aload_n 0, 1) := by decide +kernel
theorem dX3_init_36 : decode cX3_init 36 = .ok (.iconst 0, 1) := by decide +kernel
theorem dX3_init_37 : decode cX3_init 37 = .ok (.putfield 31, 3) := by decide +kernel
theorem dX3_init_40 : decode cX3_init 40 = .ok (.aload_n 0, 1) := by decide +kernel
theorem dX3_init_41 : decode cX3_init 41 = .ok (.iconst (-1), 1) := by decide +kernel
theorem dX3_init_42 : decode cX3_init 42 = .ok (.putfield 34, 3) := by decide +kernel
theorem dX3_init_45 : decode cX3_init 45 = .ok (.aload_n 0, 1) := by decide +kernel
theorem dX3_init_46 : decode cX3_init 46 = .ok (.iconst 0, 1) := by decide +kernel
theorem dX3_init_47 : decode cX3_init 47 = .ok (.putfield 37, 3) := by decide +kernel
theorem dX3_init_50 : decode cX3_init 50 = .ok (.aload_n 0, 1) := by decide +kernel
theorem dX3_init_51 : decode cX3_init 51 = .ok (.iconst 0, 1) := by decide +kernel
theorem dX3_init_52 : decode cX3_init 52 = .ok (.putfield 40, 3) := by decide +kernel
theorem dX3_init_55 : decode cX3_init 55 = .ok (.aload_n 0, 1) := by decide +kernel
theorem dX3_init_56 : decode cX3_init 56 = .ok (.iconst 0, 1) := by decide +kernel
theorem dX3_init_57 : decode cX3_init 57 = .ok (.putfield 43, 3) := by decide +kernel
theorem dX3_init_60 : decode cX3_init 60 = .ok (.aload_n 0, 1) := by decide +kernel
theorem dX3_init_61 : decode cX3_init 61 = .ok (.iconst 0, 1) := by decide +kernel
theorem dX3_init_62 : decode cX3_init 62 = .ok (.putfield 46, 3) := by decide +kernel
theorem dX3_init_65 : decode cX3_init 65 = .ok (.aload_n 0, 1) := by decide +kernel
theorem dX3_init_66 : decode cX3_init 66 = .ok (.iconst 0, 1) := by decide +kernel
theorem dX3_init_67 : decode cX3_init 67 = .ok (.putfield 49, 3) := by decide +kernel
theorem dX3_init_70 : decode cX3_init 70 = .ok (.aload_n 0, 1) := by decide +kernel
theorem dX3_init_71 : decode cX3_init 71 = .ok (.aload_n 1, 1) := by decide +kernel
theorem dX3_init_72 : decode cX3_init 72 = .ok (.putfield 52, 3) := by decide +kernel
theorem dX3_init_75 : decode cX3_init 75 = .ok (.aload_n 0, 1) := by decide +kernel
theorem dX3_init_76 : decode cX3_init 76 = .ok (.iload_n 2, 1) := by decide +kernel
theorem dX3_init_77 : decode cX3_init 77 = .ok (.putfield 56, 3) := by decide +kernel
theorem dX3_init_80 : decode cX3_init 80 = .ok (.return_, 1) := by decide +kernel
theorem dX3_readAll_0 : decode cX3_readAll 0 = .ok (.aload_n 0, 1) := by decide +kernel
theorem dX3_readAll_1 : decode cX3_readAll 1 = .ok (.invokevirtual 59, 3) := by decide +kernel
theorem dX3_readAll_4 : decode cX3_readAll 4 = .ok (.aload_n 0, 1) := by decide +kernel
theorem dX3_readAll_5 : decode cX3_readAll 5 = .ok (.getfield 22, 3) := by decide +kernel
theorem dX3_readAll_8 : decode cX3_readAll 8 = .ok (.ifCond .eq 31, 3) := by decide +kernel
theorem dX3_readAll_11 : decode cX3_readAll 11 = .ok (.aload_n 0, 1) := by decide +kernel
theorem dX3_readAll_12 : decode cX3_readAll 12 = .ok (.getfield 31, 3) := by decide +kernel
theorem dX3_readAll_15 : decode cX3_readAll 15 = .ok (.ifCond .ne 24, 3) := by decide +kernel
theorem dX3_readAll_18 : decode cX3_readAll 18 = .ok (.aload_n 0, 1) := by decide +kernel
theorem dX3_readAll_19 : decode cX3_readAll 19 = .ok (.getfield 37, 3) := by decide +kernel
theorem dX3_readAll_22 : decode cX3_readAll 22 = .ok (.sipush 700, 3) := by decide +kernel
theorem dX3_readAll_25 : decode cX3_readAll 25 = .ok (.if_icmp .gt 14, 3) := by decide +kernel
theorem dX3_readAll_28 : decode cX3_readAll 28 = .ok (.aload_n 0, 1) := by decide +kernel
theorem dX3_readAll_29 : decode cX3_readAll 29 = .ok (.invokevirtual 62, 3) := by decide +kernel
theorem dX3_readAll_32 : decode cX3_readAll 32 = .ok (.aload_n 0, 1) := by decide +kernel
theorem dX3_readAll_33 : decode cX3_readAll 33 = .ok (.invokevirtual 65, 3) := by decide +kernel
theorem dX3_readAll_36 : decode cX3_readAll 36 = .ok (.goto (-32), 3) := by decide +kernel
theorem dX3_readAll_39 : decode cX3_readAll 39 = .ok (.return_, 1) := by decide +kernel
theorem dX3_fail_0 : decode cX3_fail 0 = .ok (.aload_n 0, 1) := by decide +kernel
theorem dX3_fail_1 : decode cX3_fail 1 = .ok (.getfield 31, 3) := by decide +kernel
theorem dX3_fail_4 : decode cX3_fail 4 = .ok (.ifCond .ne 16, 3) := by decide +kernel
theorem dX3_fail_7 : decode cX3_fail 7 = .ok (.aload_n 0, 1) := by decide +kernel
theorem dX3_fail_8 : decode cX3_fail 8 = .ok (.iload_n 1, 1) := by decide +kernel
theorem dX3_fail_9 : decode cX3_fail 9 = .ok (.putfield 31, 3) := by decide +kernel
theorem dX3_fail_12 : decode cX3_fail 12 = .ok (.aload_n 0, 1) := by decide +kernel
theorem dX3_fail_13 : decode cX3_fail 13 = .ok (.aload_n 0, 1) := by decide +kernel
theorem dX3_fail_14 : decode cX3_fail 14 = .ok (.getfield 25, 3) := by decide +kernel
theorem dX3_fail_17 : decode cX3_fail 17 = .ok (.putfield 34, 3) := by decide +kernel
theorem dX3_fail_20 : decode cX3_fail 20 = .ok (.return_, 1) := by decide +kernel
theorem dX3_readLine_0 : decode cX3_readLine 0 = .ok (.aload_n 0, 1) := by decide +kernel
theorem dX3_readLine_1 : decode cX3_readLine 1 = .ok (.getfield 22, 3) := by decide +kernel
theorem dX3_readLine_4 : decode cX3_readLine 4 = .ok (.iconst 1, 1) := by decide +kernel
theorem dX3_readLine_5 : decode cX3_readLine 5 = .ok (.if_icmp .ne 10, 3) := by decide +kernel
theorem dX3_readLine_8 : decode cX3_readLine 8 = .ok (.aload_n 0, 1) := by decide +kernel
theorem dX3_readLine_9 : decode cX3_readLine 9 = .ok (.getfield 28, 3) := by decide +kernel
theorem dX3_readLine_12 : decode cX3_readLine 12 = .ok (.goto 4, 3) := by decide +kernel
theorem dX3_readLine_15 : decode cX3_readLine 15 = .ok (.iconst 0, 1) := by decide +kernel
theorem dX3_readLine_16 : decode cX3_readLine 16 = .ok (.istore_n 1, 1) := by decide +kernel
theorem dX3_readLine_17 : decode cX3_readLine 17 = .ok (.iload_n 1, 1) := by decide +kernel
theorem dX3_readLine_18 : decode cX3_readLine 18 = .ok (.lookupswitch 286 #[(68620288, 98), (80186720, 242), (211555456, 235), (256952448, 105), (412560384, 249), (419023872, 171), (522327635, 148), (642945024, 263), (650629728, 256), (654347424, 126), (724748288, 228)], 98) := by decide +kernel
theorem dX3_readLine_116 : decode cX3_readLine 116 = .ok (.aload_n 0, 1) := by decide +kernel
theorem dX3_readLine_117 : decode cX3_readLine 117 = .ok (.invokevirtual 68, 3) := by decide +kernel
theorem dX3_readLine_120 : decode cX3_readLine 120 = .ok (.goto 189, 3) := by decide +kernel
theorem dX3_readLine_123 : decode cX3_readLine 123 = .ok (.aload_n 0, 1) := by decide +kernel
theorem dX3_readLine_124 : decode cX3_readLine 124 = .ok (.iconst 2, 1) := by decide +kernel
theorem dX3_readLine_125 : decode cX3_readLine 125 = .ok (.invokevirtual 71, 3) := by decide +kernel
theorem dX3_readLine_128 : decode cX3_readLine 128 = .ok (.aload_n 0, 1) := by decide +kernel
theorem dX3_readLine_129 : decode cX3_readLine 129 = .ok (.getfield 14, 3) := by decide +kernel
theorem dX3_readLine_132 : decode cX3_readLine 132 = .ok (.aload_n 0, 1) := by decide +kernel
theorem dX3_readLine_133 : decode cX3_readLine 133 = .ok (.iconst 0, 1) := by decide +kernel
theorem dX3_readLine_134 : decode cX3_readLine 134 = .ok (.iconst 5, 1) := by decide +kernel
theorem dX3_readLine_135 : decode cX3_readLine 135 = .ok (.invokevirtual 75, 3) := by decide +kernel
theorem dX3_readLine_138 : decode cX3_readLine 138 = .ok (.putfield 79, 3) := by decide +kernel
theorem dX3_readLine_141 : decode cX3_readLine 141 = .ok (.goto 168, 3) := by decide +kernel
theorem dX3_readLine_144 : decode cX3_readLine 144 = .ok (.aload_n 0, 1) := by decide +kernel
theorem dX3_readLine_145 : decode cX3_readLine 145 = .ok (.iconst 4, 1) := by decide +kernel
theorem dX3_readLine_146 : decode cX3_readLine 146 = .ok (.invokevirtual 71, 3) := by decide +kernel
theorem dX3_readLine_149 : decode cX3_readLine 149 = .ok (.aload_n 0, 1) := by decide +kernel
theorem dX3_readLine_150 : decode cX3_readLine 150 = .ok (.getfield 14, 3) := by decide +kernel
theorem dX3_readLine_153 : decode cX3_readLine 153 = .ok (.aload_n 0, 1) := by decide +kernel
theorem dX3_readLine_154 : decode cX3_readLine 154 = .ok (.iconst 1, 1) := by decide +kernel
theorem dX3_readLine_155 : decode cX3_readLine 155 = .ok (.bipush 20, 2) := by decide +kernel
theorem dX3_readLine_157 : decode cX3_readLine 157 = .ok (.invokevirtual 75, 3) := by decide +kernel
theorem dX3_readLine_160 : decode cX3_readLine 160 = .ok (.putfield 82, 3) := by decide +kernel
theorem dX3_readLine_163 : decode cX3_readLine 163 = .ok (.goto 146, 3) := by decide +kernel
theorem dX3_readLine_166 : decode cX3_readLine 166 = .ok (.aload_n 0, 1) := by decide +kernel
theorem dX3_readLine_167 : decode cX3_readLine 167 = .ok (.bipush 8, 2) := by decide +kernel
theorem dX3_readLine_169 : decode cX3_readLine 169 = .ok (.invokevirtual 71, 3) := by decide +kernel
theorem dX3_readLine_172 : decode cX3_readLine 172 = .ok (.aload_n 0, 1) := by decide +kernel
theorem dX3_readLine_173 : decode cX3_readLine 173 = .ok (.getfield 14, 3) := by decide +kernel
theorem dX3_readLine_176 : decode cX3_readLine 176 = .ok (.aload_n 0, 1) := by decide +kernel
theorem dX3_readLine_177 : decode cX3_readLine 177 = .ok (.iconst 0, 1) := by decide +kernel
theorem dX3_readLine_178 : decode cX3_readLine 178 = .ok (.bipush 7, 2) := by decide +kernel
theorem dX3_readLine_180 : decode cX3_readLine 180 = .ok (.invokevirtual 75, 3) := by decide +kernel
theorem dX3_readLine_183 : decode cX3_readLine 183 = .ok (.putfield 85, 3) := by decide +kernel
theorem dX3_readLine_186 : decode cX3_readLine 186 = .ok (.goto 123, 3) := by decide +kernel
theorem dX3_readLine_189 : decode cX3_readLine 189 = .ok (.aload_n 0, 1) := by decide +kernel
theorem dX3_readLine_190 : decode cX3_readLine 190 = .ok (.bipush 16, 2) := by decide +kernel
theorem dX3_readLine_192 : decode cX3_readLine 192 = .ok (.invokevirtual 71, 3) := by decide +kernel
theorem dX3_readLine_195 : decode cX3_readLine 195 = .ok (.aload_n 0, 1) := by decide +kernel
theorem dX3_readLine_196 : decode cX3_readLine 196 = .ok (.getfield 14, 3) := by decide +kernel
theorem dX3_readLine_199 : decode cX3_readLine 199 = .ok (.getfield 88, 3) := by decide +kernel
theorem dX3_readLine_202 : decode cX3_readLine 202 = .ok (.iconst 0, 1) := by decide +kernel
theorem dX3_readLine_203 : decode cX3_readLine 203 = .ok (.aload_n 0, 1) := by decide +kernel
theorem dX3_readLine_204 : decode cX3_readLine 204 = .ok (.iconst 0, 1) := by decide +kernel
theorem dX3_readLine_205 : decode cX3_readLine 205 = .ok (.bipush 99, 2) := by decide +kernel
theorem dX3_readLine_207 : decode cX3_readLine 207 = .ok (.invokevirtual 75, 3) := by decide +kernel
theorem dX3_readLine_210 : decode cX3_readLine 210 = .ok (.iastore, 1) := by decide +kernel
theorem dX3_readLine_211 : decode cX3_readLine 211 = .ok (.aload_n 0, 1) := by decide +kernel
theorem dX3_readLine_212 : decode cX3_readLine 212 = .ok (.getfield 14, 3) := by decide +kernel
theorem dX3_readLine_215 : decode cX3_readLine 215 = .ok (.getfield 88, 3) := by decide +kernel
theorem dX3_readLine_218 : decode cX3_readLine 218 = .ok (.iconst 1, 1) := by decide +kernel
theorem dX3_readLine_219 : decode cX3_readLine 219 = .ok (.aload_n 0, 1) := by decide +kernel
theorem dX3_readLine_220 : decode cX3_readLine 220 = .ok (.iconst 0, 1) := by decide +kernel
theorem dX3_readLine_221 : decode cX3_readLine 221 = .ok (.bipush 99, 2) := by decide +kernel
theorem dX3_readLine_223 : decode cX3_readLine 223 = .ok (.invokevirtual 75, 3) := by decide +kernel
theorem dX3_readLine_226 : decode cX3_readLine 226 = .ok (.iastore, 1) := by decide +kernel
theorem dX3_readLine_227 : decode cX3_readLine 227 = .ok (.aload_n 0, 1) := by decide +kernel
theorem dX3_readLine_228 : decode cX3_readLine 228 = .ok (.getfield 14, 3) := by decide +kernel
theorem dX3_readLine_231 : decode cX3_readLine 231 = .ok (.getfield 88, 3) := by decide +kernel
theorem dX3_readLine_234 : decode cX3_readLine 234 = .ok (.iconst 2, 1) := by decide +kernel
theorem dX3_readLine_235 : decode cX3_readLine 235 = .ok (.aload_n 0, 1) := by decide +kernel
theorem dX3_readLine_236 : decode cX3_readLine 236 = .ok (.iconst 0, 1) := by decide +kernel
theorem dX3_readLine_237 : decode cX3_readLine 237 = .ok (.bipush 99, 2) := by decide +kernel
theorem dX3_readLine_239 : decode cX3_readLine 239 = .ok (.invokevirtual 75, 3) := by decide +kernel
theorem dX3_readLine_242 : decode cX3_readLine 242 = .ok (.iastore, 1) := by decide +kernel
theorem dX3_readLine_243 : decode cX3_readLine 243 = .ok (.goto 66, 3) := by decide +kernel
theorem dX3_readLine_246 : decode cX3_readLine 246 = .ok (.aload_n 0, 1) := by decide +kernel
theorem dX3_readLine_247 : decode cX3_readLine 247 = .ok (.invokevirtual 91, 3) := by decide +kernel
theorem dX3_readLine_250 : decode cX3_readLine 250 = .ok (.goto 59, 3) := by decide +kernel
theorem dX3_readLine_253 : decode cX3_readLine 253 = .ok (.aload_n 0, 1) := by decide +kernel
theorem dX3_readLine_254 : decode cX3_readLine 254 = .ok (.invokevirtual 94, 3) := by decide +kernel
theorem dX3_readLine_257 : decode cX3_readLine 257 = .ok (.goto 52, 3) := by decide +kernel
theorem dX3_readLine_260 : decode cX3_readLine 260 = .ok (.aload_n 0, 1) := by decide +kernel
theorem dX3_readLine_261 : decode cX3_readLine 261 = .ok (.invokevirtual 97, 3) := by decide +kernel
theorem dX3_readLine_264 : decode cX3_readLine 264 = .ok (.goto 45, 3) := by decide +kernel
theorem dX3_readLine_267 : decode cX3_readLine 267 = .ok (.aload_n 0, 1) := by decide +kernel
theorem dX3_readLine_268 : decode cX3_readLine 268 = .ok (.invokevirtual 100, 3) := by decide +kernel
theorem dX3_readLine_271 : decode cX3_readLine 271 = .ok (.goto 38, 3) := by decide +kernel
theorem dX3_readLine_274 : decode cX3_readLine 274 = .ok (.aload_n 0, 1) := by decide +kernel
theorem dX3_readLine_275 : decode cX3_readLine 275 = .ok (.invokevirtual 103, 3) := by decide +kernel
theorem dX3_readLine_278 : decode cX3_readLine 278 = .ok (.goto 31, 3) := by decide +kernel
theorem dX3_readLine_281 : decode cX3_readLine 281 = .ok (.aload_n 0, 1) := by decide +kernel
theorem dX3_readLine_282 : decode cX3_readLine 282 = .ok (.bipush 32, 2) := by decide +kernel
theorem dX3_readLine_284 : decode cX3_readLine 284 = .ok (.invokevirtual 71, 3) := by decide +kernel
theorem dX3_readLine_287 : decode cX3_readLine 287 = .ok (.aload_n 0, 1) := by decide +kernel
theorem dX3_readLine_288 : decode cX3_readLine 288 = .ok (.getfield 14, 3) := by decide +kernel
theorem dX3_readLine_291 : decode cX3_readLine 291 = .ok (.aload_n 0, 1) := by decide +kernel
theorem dX3_readLine_292 : decode cX3_readLine 292 = .ok (.iconst 0, 1) := by decide +kernel
theorem dX3_readLine_293 : decode cX3_readLine 293 = .ok (.ldc 106, 2) := by decide +kernel
theorem dX3_readLine_295 : decode cX3_readLine 295 = .ok (.invokevirtual 75, 3) := by decide +kernel
theorem dX3_readLine_298 : decode cX3_readLine 298 = .ok (.putfield 107, 3) := by decide +kernel
theorem dX3_readLine_301 : decode cX3_readLine 301 = .ok (.goto 8, 3) := by decide +kernel
theorem dX3_readLine_304 : decode cX3_readLine 304 = .ok (.aload_n 0, 1) := by decide +kernel
theorem dX3_readLine_305 : decode cX3_readLine 305 = .ok (.iconst 1, 1) := by decide +kernel
theorem dX3_readLine_306 : decode cX3_readLine 306 = .ok (.invokevirtual 110, 3) := by decide +kernel
theorem dX3_readLine_309 : decode cX3_readLine 309 = .ok (.return_, 1) := by decide +kernel
theorem dX3_endLine_0 : decode cX3_endLine 0 = .ok (.aload_n 0, 1) := by decide +kernel
theorem dX3_endLine_1 : decode cX3_endLine 1 = .ok (.getfield 31, 3) := by decide +kernel
theorem dX3_endLine_4 : decode cX3_endLine 4 = .ok (.ifCond .eq 4, 3) := by decide +kernel
theorem dX3_endLine_7 : decode cX3_endLine 7 = .ok (.return_, 1) := by decide +kernel
theorem dX3_endLine_8 : decode cX3_endLine 8 = .ok (.aload_n 0, 1) := by decide +kernel
theorem dX3_endLine_9 : decode cX3_endLine 9 = .ok (.invokevirtual 59, 3) := by decide +kernel
theorem dX3_endLine_12 : decode cX3_endLine 12 = .ok (.aload_n 0, 1) := by decide +kernel
theorem dX3_endLine_13 : decode cX3_endLine 13 = .ok (.getfield 22, 3) := by decide +kernel
theorem dX3_endLine_16 : decode cX3_endLine 16 = .ok (.iconst 3, 1) := by decide +kernel
theorem dX3_endLine_17 : decode cX3_endLine 17 = .ok (.if_icmp .ne 20, 3) := by decide +kernel
theorem dX3_endLine_20 : decode cX3_endLine 20 = .ok (.aload_n 0, 1) := by decide +kernel
theorem dX3_endLine_21 : decode cX3_endLine 21 = .ok (.dup, 1) := by decide +kernel
theorem dX3_endLine_22 : decode cX3_endLine 22 = .ok (.getfield 37, 3) := by decide +kernel
theorem dX3_endLine_25 : decode cX3_endLine 25 = .ok (.iconst 1, 1) := by decide +kernel
theorem dX3_endLine_26 : decode cX3_endLine 26 = .ok (.iadd, 1) := by decide +kernel
theorem dX3_endLine_27 : decode cX3_endLine 27 = .ok (.putfield 37, 3) := by decide +kernel
theorem dX3_endLine_30 : decode cX3_endLine 30 = .ok (.aload_n 0, 1) := by decide +kernel
theorem dX3_endLine_31 : decode cX3_endLine 31 = .ok (.invokevirtual 59, 3) := by decide +kernel
theorem dX3_endLine_34 : decode cX3_endLine 34 = .ok (.goto 8, 3) := by decide +kernel
theorem dX3_endLine_37 : decode cX3_endLine 37 = .ok (.aload_n 0, 1) := by decide +kernel
theorem dX3_endLine_38 : decode cX3_endLine 38 = .ok (.iconst 1, 1) := by decide +kernel
theorem dX3_endLine_39 : decode cX3_endLine 39 = .ok (.invokevirtual 110, 3) := by decide +kernel
theorem dX3_endLine_42 : decode cX3_endLine 42 = .ok (.return_, 1) := by decide +kernel
theorem dX3_tellOnce_0 : decode cX3_tellOnce 0 = .ok (.aload_n 0, 1) := by decide +kernel
theorem dX3_tellOnce_1 : decode cX3_tellOnce 1 = .ok (.getfield 43, 3) := by decide +kernel
theorem dX3_tellOnce_4 : decode cX3_tellOnce 4 = .ok (.iload_n 1, 1) := by decide +kernel
theorem dX3_tellOnce_5 : decode cX3_tellOnce 5 = .ok (.iand, 1) := by decide +kernel
theorem dX3_tellOnce_6 : decode cX3_tellOnce 6 = .ok (.ifCond .eq 8, 3) := by decide +kernel
theorem dX3_tellOnce_9 : decode cX3_tellOnce 9 = .ok (.aload_n 0, 1) := by decide +kernel
theorem dX3_tellOnce_10 : decode cX3_tellOnce 10 = .ok (.iconst 3, 1) := by decide +kernel
theorem dX3_tellOnce_11 : decode cX3_tellOnce 11 = .ok (.invokevirtual 110, 3) := by decide +kernel
theorem dX3_tellOnce_14 : decode cX3_tellOnce 14 = .ok (.aload_n 0, 1) := by decide +kernel
theorem dX3_tellOnce_15 : decode cX3_tellOnce 15 = .ok (.dup, 1) := by decide +kernel
theorem dX3_tellOnce_16 : decode cX3_tellOnce 16 = .ok (.getfield 43, 3) := by decide +kernel
theorem dX3_tellOnce_19 : decode cX3_tellOnce 19 = .ok (.iload_n 1, 1) := by decide +kernel
theorem dX3_tellOnce_20 : decode cX3_tellOnce 20 = .ok (.ior, 1) := by decide +kernel
theorem dX3_tellOnce_21 : decode cX3_tellOnce 21 = .ok (.putfield 43, 3) := by decide +kernel
theorem dX3_tellOnce_24 : decode cX3_tellOnce 24 = .ok (.return_, 1) := by decide +kernel
theorem dX3_readBand_0 : decode cX3_readBand 0 = .ok (.aload_n 0, 1) := by decide +kernel
theorem dX3_readBand_1 : decode cX3_readBand 1 = .ok (.getfield 14, 3) := by decide +kernel
theorem dX3_readBand_4 : decode cX3_readBand 4 = .ok (.getfield 113, 3) := by decide +kernel
theorem dX3_readBand_7 : decode cX3_readBand 7 = .ok (.ifCond .gt 10, 3) := by decide +kernel
theorem dX3_readBand_10 : decode cX3_readBand 10 = .ok (.aload_n 0, 1) := by decide +kernel
theorem dX3_readBand_11 : decode cX3_readBand 11 = .ok (.getfield 40, 3) := by decide +kernel
theorem dX3_readBand_14 : decode cX3_readBand 14 = .ok (.ifCond .le 8, 3) := by decide +kernel
theorem dX3_readBand_17 : decode cX3_readBand 17 = .ok (.aload_n 0, 1) := by decide +kernel
theorem dX3_readBand_18 : decode cX3_readBand 18 = .ok (.iconst 1, 1) := by decide +kernel
theorem dX3_readBand_19 : decode cX3_readBand 19 = .ok (.invokevirtual 110, 3) := by decide +kernel
theorem dX3_readBand_22 : decode cX3_readBand 22 = .ok (.aload_n 0, 1) := by decide +kernel
theorem dX3_readBand_23 : decode cX3_readBand 23 = .ok (.iconst 1, 1) := by decide +kernel
theorem dX3_readBand_24 : decode cX3_readBand 24 = .ok (.invokevirtual 71, 3) := by decide +kernel
theorem dX3_readBand_27 : decode cX3_readBand 27 = .ok (.aload_n 0, 1) := by decide +kernel
theorem dX3_readBand_28 : decode cX3_readBand 28 = .ok (.getfield 14, 3) := by decide +kernel
theorem dX3_readBand_31 : decode cX3_readBand 31 = .ok (.aload_n 0, 1) := by decide +kernel
theorem dX3_readBand_32 : decode cX3_readBand 32 = .ok (.iconst 4, 1) := by decide +kernel
theorem dX3_readBand_33 : decode cX3_readBand 33 = .ok (.bipush 60, 2) := by decide +kernel
theorem dX3_readBand_35 : decode cX3_readBand 35 = .ok (.invokevirtual 75, 3) := by decide +kernel
theorem dX3_readBand_38 : decode cX3_readBand 38 = .ok (.putfield 116, 3) := by decide +kernel
theorem dX3_readBand_41 : decode cX3_readBand 41 = .ok (.return_, 1) := by decide +kernel
theorem dX3_readUser_0 : decode cX3_readUser 0 = .ok (.aload_n 0, 1) := by decide +kernel
theorem dX3_readUser_1 : decode cX3_readUser 1 = .ok (.getfield 14, 3) := by decide +kernel
theorem dX3_readUser_4 : decode cX3_readUser 4 = .ok (.getfield 113, 3) := by decide +kernel
theorem dX3_readUser_7 : decode cX3_readUser 7 = .ok (.istore_n 1, 1) := by decide +kernel
theorem dX3_readUser_8 : decode cX3_readUser 8 = .ok (.iload_n 1, 1) := by decide +kernel
theorem dX3_readUser_9 : decode cX3_readUser 9 = .ok (.bipush 6, 2) := by decide +kernel
theorem dX3_readUser_11 : decode cX3_readUser 11 = .ok (.if_icmp .lt 9, 3) := by decide +kernel
theorem dX3_readUser_14 : decode cX3_readUser 14 = .ok (.aload_n 0, 1) := by decide +kernel
theorem dX3_readUser_15 : decode cX3_readUser 15 = .ok (.iconst 2, 1) := by decide +kernel
theorem dX3_readUser_16 : decode cX3_readUser 16 = .ok (.invokevirtual 110, 3) := by decide +kernel
theorem dX3_readUser_19 : decode cX3_readUser 19 = .ok (.return_, 1) := by decide +kernel
theorem dX3_readUser_20 : decode cX3_readUser 20 = .ok (.aload_n 0, 1) := by decide +kernel
theorem dX3_readUser_21 : decode cX3_readUser 21 = .ok (.invokevirtual 119, 3) := by decide +kernel
theorem dX3_readUser_24 : decode cX3_readUser 24 = .ok (.istore_n 2, 1) := by decide +kernel
theorem dX3_readUser_25 : decode cX3_readUser 25 = .ok (.aload_n 0, 1) := by decide +kernel
theorem dX3_readUser_26 : decode cX3_readUser 26 = .ok (.getfield 14, 3) := by decide +kernel
theorem dX3_readUser_29 : decode cX3_readUser 29 = .ok (.iload_n 2, 1) := by decide +kernel
theorem dX3_readUser_30 : decode cX3_readUser 30 = .ok (.invokevirtual 123, 3) := by decide +kernel
theorem dX3_readUser_33 : decode cX3_readUser 33 = .ok (.ifCond .lt 8, 3) := by decide +kernel
theorem dX3_readUser_36 : decode cX3_readUser 36 = .ok (.aload_n 0, 1) := by decide +kernel
theorem dX3_readUser_37 : decode cX3_readUser 37 = .ok (.iconst 3, 1) := by decide +kernel
theorem dX3_readUser_38 : decode cX3_readUser 38 = .ok (.invokevirtual 110, 3) := by decide +kernel
theorem dX3_readUser_41 : decode cX3_readUser 41 = .ok (.aload_n 0, 1) := by decide +kernel
theorem dX3_readUser_42 : decode cX3_readUser 42 = .ok (.getfield 14, 3) := by decide +kernel
theorem dX3_readUser_45 : decode cX3_readUser 45 = .ok (.getfield 127, 3) := by decide +kernel
theorem dX3_readUser_48 : decode cX3_readUser 48 = .ok (.iload_n 1, 1) := by decide +kernel
theorem dX3_readUser_49 : decode cX3_readUser 49 = .ok (.iload_n 2, 1) := by decide +kernel
theorem dX3_readUser_50 : decode cX3_readUser 50 = .ok (.iastore, 1) := by decide +kernel
theorem dX3_readUser_51 : decode cX3_readUser 51 = .ok (.aload_n 0, 1) := by decide +kernel
theorem dX3_readUser_52 : decode cX3_readUser 52 = .ok (.getfield 14, 3) := by decide +kernel
theorem dX3_readUser_55 : decode cX3_readUser 55 = .ok (.getfield 130, 3) := by decide +kernel
theorem dX3_readUser_58 : decode cX3_readUser 58 = .ok (.iload_n 1, 1) := by decide +kernel
theorem dX3_readUser_59 : decode cX3_readUser 59 = .ok (.aload_n 0, 1) := by decide +kernel
theorem dX3_readUser_60 : decode cX3_readUser 60 = .ok (.iconst 0, 1) := by decide +kernel
theorem dX3_readUser_61 : decode cX3_readUser 61 = .ok (.iconst 2, 1) := by decide +kernel
theorem dX3_readUser_62 : decode cX3_readUser 62 = .ok (.invokevirtual 75, 3) := by decide +kernel
theorem dX3_readUser_65 : decode cX3_readUser 65 = .ok (.iastore, 1) := by decide +kernel
theorem dX3_readUser_66 : decode cX3_readUser 66 = .ok (.aload_n 0, 1) := by decide +kernel
theorem dX3_readUser_67 : decode cX3_readUser 67 = .ok (.getfield 14, 3) := by decide +kernel
theorem dX3_readUser_70 : decode cX3_readUser 70 = .ok (.getfield 133, 3) := by decide +kernel
theorem dX3_readUser_73 : decode cX3_readUser 73 = .ok (.iload_n 1, 1) := by decide +kernel
theorem dX3_readUser_74 : decode cX3_readUser 74 = .ok (.aload_n 0, 1) := by decide +kernel
theorem dX3_readUser_75 : decode cX3_readUser 75 = .ok (.iconst 0, 1) := by decide +kernel
theorem dX3_readUser_76 : decode cX3_readUser 76 = .ok (.bipush 30, 2) := by decide +kernel
theorem dX3_readUser_78 : decode cX3_readUser 78 = .ok (.invokevirtual 75, 3) := by decide +kernel
theorem dX3_readUser_81 : decode cX3_readUser 81 = .ok (.iastore, 1) := by decide +kernel
theorem dX3_readUser_82 : decode cX3_readUser 82 = .ok (.aload_n 0, 1) := by decide +kernel
theorem dX3_readUser_83 : decode cX3_readUser 83 = .ok (.getfield 14, 3) := by decide +kernel
theorem dX3_readUser_86 : decode cX3_readUser 86 = .ok (.getfield 136, 3) := by decide +kernel
theorem dX3_readUser_89 : decode cX3_readUser 89 = .ok (.iload_n 1, 1) := by decide +kernel
theorem dX3_readUser_90 : decode cX3_readUser 90 = .ok (.aload_n 0, 1) := by decide +kernel
theorem dX3_readUser_91 : decode cX3_readUser 91 = .ok (.iconst 1, 1) := by decide +kernel
theorem dX3_readUser_92 : decode cX3_readUser 92 = .ok (.aload_n 0, 1) := by decide +kernel
theorem dX3_readUser_93 : decode cX3_readUser 93 = .ok (.getfield 14, 3) := by decide +kernel
theorem dX3_readUser_96 : decode cX3_readUser 96 = .ok (.getfield 116, 3) := by decide +kernel
theorem dX3_readUser_99 : decode cX3_readUser 99 = .ok (.invokevirtual 75, 3) := by decide +kernel
theorem dX3_readUser_102 : decode cX3_readUser 102 = .ok (.iastore, 1) := by decide +kernel
theorem dX3_readUser_103 : decode cX3_readUser 103 = .ok (.aload_n 0, 1) := by decide +kernel
theorem dX3_readUser_104 : decode cX3_readUser 104 = .ok (.getfield 14, 3) := by decide +kernel
theorem dX3_readUser_107 : decode cX3_readUser 107 = .ok (.getfield 139, 3) := by decide +kernel
theorem dX3_readUser_110 : decode cX3_readUser 110 = .ok (.iload_n 1, 1) := by decide +kernel
theorem dX3_readUser_111 : decode cX3_readUser 111 = .ok (.aload_n 0, 1) := by decide +kernel
theorem dX3_readUser_112 : decode cX3_readUser 112 = .ok (.aload_n 0, 1) := by decide +kernel
theorem dX3_readUser_113 : decode cX3_readUser 113 = .ok (.getfield 14, 3) := by decide +kernel
theorem dX3_readUser_116 : decode cX3_readUser 116 = .ok (.getfield 136, 3) := by decide +kernel
theorem dX3_readUser_119 : decode cX3_readUser 119 = .ok (.iload_n 1, 1) := by decide +kernel
theorem dX3_readUser_120 : decode cX3_readUser 120 = .ok (.iaload, 1) := by decide +kernel
theorem dX3_readUser_121 : decode cX3_readUser 121 = .ok (.aload_n 0, 1) := by decide +kernel
theorem dX3_readUser_122 : decode cX3_readUser 122 = .ok (.getfield 14, 3) := by decide +kernel
theorem dX3_readUser_125 : decode cX3_readUser 125 = .ok (.getfield 116, 3) := by decide +kernel
theorem dX3_readUser_128 : decode cX3_readUser 128 = .ok (.invokevirtual 75, 3) := by decide +kernel
theorem dX3_readUser_131 : decode cX3_readUser 131 = .ok (.iastore, 1) := by decide +kernel
theorem dX3_readUser_132 : decode cX3_readUser 132 = .ok (.aload_n 0, 1) := by decide +kernel
theorem dX3_readUser_133 : decode cX3_readUser 133 = .ok (.getfield 14, 3) := by decide +kernel
theorem dX3_readUser_136 : decode cX3_readUser 136 = .ok (.getfield 142, 3) := by decide +kernel
theorem dX3_readUser_139 : decode cX3_readUser 139 = .ok (.iload_n 1, 1) := by decide +kernel
theorem dX3_readUser_140 : decode cX3_readUser 140 = .ok (.sipush 255, 3) := by decide +kernel
theorem dX3_readUser_143 : decode cX3_readUser 143 = .ok (.iastore, 1) := by decide +kernel
theorem dX3_readUser_144 : decode cX3_readUser 144 = .ok (.aload_n 0, 1) := by decide +kernel
theorem dX3_readUser_145 : decode cX3_readUser 145 = .ok (.getfield 14, 3) := by decide +kernel
theorem dX3_readUser_148 : decode cX3_readUser 148 = .ok (.dup, 1) := by decide +kernel
theorem dX3_readUser_149 : decode cX3_readUser 149 = .ok (.getfield 113, 3) := by decide +kernel
theorem dX3_readUser_152 : decode cX3_readUser 152 = .ok (.iconst 1, 1) := by decide +kernel
theorem dX3_readUser_153 : decode cX3_readUser 153 = .ok (.iadd, 1) := by decide +kernel
theorem dX3_readUser_154 : decode cX3_readUser 154 = .ok (.putfield 113, 3) := by decide +kernel
theorem dX3_readUser_157 : decode cX3_readUser 157 = .ok (.return_, 1) := by decide +kernel
theorem dX3_readFixed_0 : decode cX3_readFixed 0 = .ok (.aload_n 0, 1) := by decide +kernel
theorem dX3_readFixed_1 : decode cX3_readFixed 1 = .ok (.invokevirtual 145, 3) := by decide +kernel
theorem dX3_readFixed_4 : decode cX3_readFixed 4 = .ok (.istore_n 1, 1) := by decide +kernel
theorem dX3_readFixed_5 : decode cX3_readFixed 5 = .ok (.iload_n 1, 1) := by decide +kernel
theorem dX3_readFixed_6 : decode cX3_readFixed 6 = .ok (.ifCond .ge 4, 3) := by decide +kernel
theorem dX3_readFixed_9 : decode cX3_readFixed 9 = .ok (.return_, 1) := by decide +kernel
theorem dX3_readFixed_10 : decode cX3_readFixed 10 = .ok (.aload_n 0, 1) := by decide +kernel
theorem dX3_readFixed_11 : decode cX3_readFixed 11 = .ok (.getfield 46, 3) := by decide +kernel
theorem dX3_readFixed_14 : decode cX3_readFixed 14 = .ok (.iload_n 1, 1) := by decide +kernel
theorem dX3_readFixed_15 : decode cX3_readFixed 15 = .ok (.ishr, 1) := by decide +kernel
theorem dX3_readFixed_16 : decode cX3_readFixed 16 = .ok (.iconst 1, 1) := by decide +kernel
theorem dX3_readFixed_17 : decode cX3_readFixed 17 = .ok (.iand, 1) := by decide +kernel
theorem dX3_readFixed_18 : decode cX3_readFixed 18 = .ok (.ifCond .eq 8, 3) := by decide +kernel
theorem dX3_readFixed_21 : decode cX3_readFixed 21 = .ok (.aload_n 0, 1) := by decide +kernel
theorem dX3_readFixed_22 : decode cX3_readFixed 22 = .ok (.iconst 3, 1) := by decide +kernel
theorem dX3_readFixed_23 : decode cX3_readFixed 23 = .ok (.invokevirtual 110, 3) := by decide +kernel
theorem dX3_readFixed_26 : decode cX3_readFixed 26 = .ok (.aload_n 0, 1) := by decide +kernel
theorem dX3_readFixed_27 : decode cX3_readFixed 27 = .ok (.dup, 1) := by decide +kernel
theorem dX3_readFixed_28 : decode cX3_readFixed 28 = .ok (.getfield 46, 3) := by decide +kernel
theorem dX3_readFixed_31 : decode cX3_readFixed 31 = .ok (.iconst 1, 1) := by decide +kernel
theorem dX3_readFixed_32 : decode cX3_readFixed 32 = .ok (.iload_n 1, 1) := by decide +kernel
theorem dX3_readFixed_33 : decode cX3_readFixed 33 = .ok (.ishl, 1) := by decide +kernel
theorem dX3_readFixed_34 : decode cX3_readFixed 34 = .ok (.ior, 1) := by decide +kernel
theorem dX3_readFixed_35 : decode cX3_readFixed 35 = .ok (.putfield 46, 3) := by decide +kernel
theorem dX3_readFixed_38 : decode cX3_readFixed 38 = .ok (.aload_n 0, 1) := by decide +kernel
theorem dX3_readFixed_39 : decode cX3_readFixed 39 = .ok (.getfield 14, 3) := by decide +kernel
theorem dX3_readFixed_42 : decode cX3_readFixed 42 = .ok (.getfield 148, 3) := by decide +kernel
theorem dX3_readFixed_45 : decode cX3_readFixed 45 = .ok (.iload_n 1, 1) := by decide +kernel
theorem dX3_readFixed_46 : decode cX3_readFixed 46 = .ok (.aload_n 0, 1) := by decide +kernel
theorem dX3_readFixed_47 : decode cX3_readFixed 47 = .ok (.iconst 1, 1) := by decide +kernel
theorem dX3_readFixed_48 : decode cX3_readFixed 48 = .ok (.aload_n 0, 1) := by decide +kernel
theorem dX3_readFixed_49 : decode cX3_readFixed 49 = .ok (.getfield 14, 3) := by decide +kernel
theorem dX3_readFixed_52 : decode cX3_readFixed 52 = .ok (.getfield 116, 3) := by decide +kernel
theorem dX3_readFixed_55 : decode cX3_readFixed 55 = .ok (.invokevirtual 75, 3) := by decide +kernel
theorem dX3_readFixed_58 : decode cX3_readFixed 58 = .ok (.iastore, 1) := by decide +kernel
theorem dX3_readFixed_59 : decode cX3_readFixed 59 = .ok (.return_, 1) := by decide +kernel
theorem dX3_readSlots_0 : decode cX3_readSlots 0 = .ok (.aload_n 0, 1) := by decide +kernel
theorem dX3_readSlots_1 : decode cX3_readSlots 1 = .ok (.invokevirtual 145, 3) := by decide +kernel
theorem dX3_readSlots_4 : decode cX3_readSlots 4 = .ok (.istore_n 1, 1) := by decide +kernel
theorem dX3_readSlots_5 : decode cX3_readSlots 5 = .ok (.iload_n 1, 1) := by decide +kernel
theorem dX3_readSlots_6 : decode cX3_readSlots 6 = .ok (.ifCond .ge 4, 3) := by decide +kernel
theorem dX3_readSlots_9 : decode cX3_readSlots 9 = .ok (.return_, 1) := by decide +kernel
theorem dX3_readSlots_10 : decode cX3_readSlots 10 = .ok (.aload_n 0, 1) := by decide +kernel
theorem dX3_readSlots_11 : decode cX3_readSlots 11 = .ok (.getfield 49, 3) := by decide +kernel
theorem dX3_readSlots_14 : decode cX3_readSlots 14 = .ok (.iload_n 1, 1) := by decide +kernel
theorem dX3_readSlots_15 : decode cX3_readSlots 15 = .ok (.ishr, 1) := by decide +kernel
theorem dX3_readSlots_16 : decode cX3_readSlots 16 = .ok (.iconst 1, 1) := by decide +kernel
theorem dX3_readSlots_17 : decode cX3_readSlots 17 = .ok (.iand, 1) := by decide +kernel
theorem dX3_readSlots_18 : decode cX3_readSlots 18 = .ok (.ifCond .eq 8, 3) := by decide +kernel
theorem dX3_readSlots_21 : decode cX3_readSlots 21 = .ok (.aload_n 0, 1) := by decide +kernel
theorem dX3_readSlots_22 : decode cX3_readSlots 22 = .ok (.iconst 3, 1) := by decide +kernel
theorem dX3_readSlots_23 : decode cX3_readSlots 23 = .ok (.invokevirtual 110, 3) := by decide +kernel
theorem dX3_readSlots_26 : decode cX3_readSlots 26 = .ok (.aload_n 0, 1) := by decide +kernel
theorem dX3_readSlots_27 : decode cX3_readSlots 27 = .ok (.dup, 1) := by decide +kernel
theorem dX3_readSlots_28 : decode cX3_readSlots 28 = .ok (.getfield 49, 3) := by decide +kernel
theorem dX3_readSlots_31 : decode cX3_readSlots 31 = .ok (.iconst 1, 1) := by decide +kernel
theorem dX3_readSlots_32 : decode cX3_readSlots 32 = .ok (.iload_n 1, 1) := by decide +kernel
theorem dX3_readSlots_33 : decode cX3_readSlots 33 = .ok (.ishl, 1) := by decide +kernel
theorem dX3_readSlots_34 : decode cX3_readSlots 34 = .ok (.ior, 1) := by decide +kernel
theorem dX3_readSlots_35 : decode cX3_readSlots 35 = .ok (.putfield 49, 3) := by decide +kernel
theorem dX3_readSlots_38 : decode cX3_readSlots 38 = .ok (.aload_n 0, 1) := by decide +kernel
theorem dX3_readSlots_39 : decode cX3_readSlots 39 = .ok (.getfield 14, 3) := by decide +kernel
theorem dX3_readSlots_42 : decode cX3_readSlots 42 = .ok (.getfield 142, 3) := by decide +kernel
theorem dX3_readSlots_45 : decode cX3_readSlots 45 = .ok (.iload_n 1, 1) := by decide +kernel
theorem dX3_readSlots_46 : decode cX3_readSlots 46 = .ok (.aload_n 0, 1) := by decide +kernel
theorem dX3_readSlots_47 : decode cX3_readSlots 47 = .ok (.iconst 1, 1) := by decide +kernel
theorem dX3_readSlots_48 : decode cX3_readSlots 48 = .ok (.sipush 255, 3) := by decide +kernel
theorem dX3_readSlots_51 : decode cX3_readSlots 51 = .ok (.invokevirtual 75, 3) := by decide +kernel
theorem dX3_readSlots_54 : decode cX3_readSlots 54 = .ok (.iastore, 1) := by decide +kernel
theorem dX3_readSlots_55 : decode cX3_readSlots 55 = .ok (.return_, 1) := by decide +kernel
theorem dX3_readBlock_0 : decode cX3_readBlock 0 = .ok (.aload_n 0, 1) := by decide +kernel
theorem dX3_readBlock_1 : decode cX3_readBlock 1 = .ok (.getfield 40, 3) := by decide +kernel
theorem dX3_readBlock_4 : decode cX3_readBlock 4 = .ok (.bipush 6, 2) := by decide +kernel
theorem dX3_readBlock_6 : decode cX3_readBlock 6 = .ok (.if_icmp .lt 8, 3) := by decide +kernel
theorem dX3_readBlock_9 : decode cX3_readBlock 9 = .ok (.aload_n 0, 1) := by decide +kernel
theorem dX3_readBlock_10 : decode cX3_readBlock 10 = .ok (.iconst 2, 1) := by decide +kernel
theorem dX3_readBlock_11 : decode cX3_readBlock 11 = .ok (.invokevirtual 110, 3) := by decide +kernel
theorem dX3_readBlock_14 : decode cX3_readBlock 14 = .ok (.aload_n 0, 1) := by decide +kernel
theorem dX3_readBlock_15 : decode cX3_readBlock 15 = .ok (.dup, 1) := by decide +kernel
theorem dX3_readBlock_16 : decode cX3_readBlock 16 = .ok (.getfield 40, 3) := by decide +kernel
theorem dX3_readBlock_19 : decode cX3_readBlock 19 = .ok (.iconst 1, 1) := by decide +kernel
theorem dX3_readBlock_20 : decode cX3_readBlock 20 = .ok (.iadd, 1) := by decide +kernel
theorem dX3_readBlock_21 : decode cX3_readBlock 21 = .ok (.putfield 40, 3) := by decide +kernel
theorem dX3_readBlock_24 : decode cX3_readBlock 24 = .ok (.aload_n 0, 1) := by decide +kernel
theorem dX3_readBlock_25 : decode cX3_readBlock 25 = .ok (.iconst 1, 1) := by decide +kernel
theorem dX3_readBlock_26 : decode cX3_readBlock 26 = .ok (.aload_n 0, 1) := by decide +kernel
theorem dX3_readBlock_27 : decode cX3_readBlock 27 = .ok (.getfield 14, 3) := by decide +kernel
theorem dX3_readBlock_30 : decode cX3_readBlock 30 = .ok (.getfield 116, 3) := by decide +kernel
theorem dX3_readBlock_33 : decode cX3_readBlock 33 = .ok (.invokevirtual 75, 3) := by decide +kernel
theorem dX3_readBlock_36 : decode cX3_readBlock 36 = .ok (.istore_n 1, 1) := by decide +kernel
theorem dX3_readBlock_37 : decode cX3_readBlock 37 = .ok (.aload_n 0, 1) := by decide +kernel
theorem dX3_readBlock_38 : decode cX3_readBlock 38 = .ok (.iload_n 1, 1) := by decide +kernel
theorem dX3_readBlock_39 : decode cX3_readBlock 39 = .ok (.aload_n 0, 1) := by decide +kernel
theorem dX3_readBlock_40 : decode cX3_readBlock 40 = .ok (.getfield 14, 3) := by decide +kernel
theorem dX3_readBlock_43 : decode cX3_readBlock 43 = .ok (.getfield 116, 3) := by decide +kernel
theorem dX3_readBlock_46 : decode cX3_readBlock 46 = .ok (.invokevirtual 75, 3) := by decide +kernel
theorem dX3_readBlock_49 : decode cX3_readBlock 49 = .ok (.istore_n 2, 1) := by decide +kernel
theorem dX3_readBlock_50 : decode cX3_readBlock 50 = .ok (.iload_n 1, 1) := by decide +kernel
theorem dX3_readBlock_51 : decode cX3_readBlock 51 = .ok (.istore_n 3, 1) := by decide +kernel
theorem dX3_readBlock_52 : decode cX3_readBlock 52 = .ok (.iload_n 3, 1) := by decide +kernel
theorem dX3_readBlock_53 : decode cX3_readBlock 53 = .ok (.iload_n 2, 1) := by decide +kernel
theorem dX3_readBlock_54 : decode cX3_readBlock 54 = .ok (.if_icmp .gt 24, 3) := by decide +kernel
theorem dX3_readBlock_57 : decode cX3_readBlock 57 = .ok (.aload_n 0, 1) := by decide +kernel
theorem dX3_readBlock_58 : decode cX3_readBlock 58 = .ok (.getfield 14, 3) := by decide +kernel
theorem dX3_readBlock_61 : decode cX3_readBlock 61 = .ok (.dup, 1) := by decide +kernel
theorem dX3_readBlock_62 : decode cX3_readBlock 62 = .ok (.getfield 151, 3) := by decide +kernel
theorem dX3_readBlock_65 : decode cX3_readBlock 65 = .ok (.lconst 1, 1) := by decide +kernel
theorem dX3_readBlock_66 : decode cX3_readBlock 66 = .ok (.iload_n 3, 1) := by decide +kernel
theorem dX3_readBlock_67 : decode cX3_readBlock 67 = .ok (.lshl, 1) := by decide +kernel
theorem dX3_readBlock_68 : decode cX3_readBlock 68 = .ok (.lor, 1) := by decide +kernel
theorem dX3_readBlock_69 : decode cX3_readBlock 69 = .ok (.putfield 151, 3) := by decide +kernel
theorem dX3_readBlock_72 : decode cX3_readBlock 72 = .ok (.iinc 3 1, 3) := by decide +kernel
theorem dX3_readBlock_75 : decode cX3_readBlock 75 = .ok (.goto (-23), 3) := by decide +kernel
theorem dX3_readBlock_78 : decode cX3_readBlock 78 = .ok (.return_, 1) := by decide +kernel
theorem dX3_readLink_0 : decode cX3_readLink 0 = .ok (.aload_n 0, 1) := by decide +kernel
theorem dX3_readLink_1 : decode cX3_readLink 1 = .ok (.iconst 0, 1) := by decide +kernel
theorem dX3_readLink_2 : decode cX3_readLink 2 = .ok (.iconst 2, 1) := by decide +kernel
theorem dX3_readLink_3 : decode cX3_readLink 3 = .ok (.invokevirtual 75, 3) := by decide +kernel
theorem dX3_readLink_6 : decode cX3_readLink 6 = .ok (.istore_n 1, 1) := by decide +kernel
theorem dX3_readLink_7 : decode cX3_readLink 7 = .ok (.aload_n 0, 1) := by decide +kernel
theorem dX3_readLink_8 : decode cX3_readLink 8 = .ok (.iconst 0, 1) := by decide +kernel
theorem dX3_readLink_9 : decode cX3_readLink 9 = .ok (.iconst 2, 1) := by decide +kernel
theorem dX3_readLink_10 : decode cX3_readLink 10 = .ok (.invokevirtual 75, 3) := by decide +kernel
theorem dX3_readLink_13 : decode cX3_readLink 13 = .ok (.istore_n 2, 1) := by decide +kernel
theorem dX3_readLink_14 : decode cX3_readLink 14 = .ok (.iload_n 1, 1) := by decide +kernel
theorem dX3_readLink_15 : decode cX3_readLink 15 = .ok (.iload_n 2, 1) := by decide +kernel
theorem dX3_readLink_16 : decode cX3_readLink 16 = .ok (.if_icmp .ne 8, 3) := by decide +kernel
theorem dX3_readLink_19 : decode cX3_readLink 19 = .ok (.aload_n 0, 1) := by decide +kernel
theorem dX3_readLink_20 : decode cX3_readLink 20 = .ok (.iconst 2, 1) := by decide +kernel
theorem dX3_readLink_21 : decode cX3_readLink 21 = .ok (.invokevirtual 110, 3) := by decide +kernel
theorem dX3_readLink_24 : decode cX3_readLink 24 = .ok (.aload_n 0, 1) := by decide +kernel
theorem dX3_readLink_25 : decode cX3_readLink 25 = .ok (.getfield 14, 3) := by decide +kernel
theorem dX3_readLink_28 : decode cX3_readLink 28 = .ok (.getfield 155, 3) := by decide +kernel
theorem dX3_readLink_31 : decode cX3_readLink 31 = .ok (.iload_n 1, 1) := by decide +kernel
theorem dX3_readLink_32 : decode cX3_readLink 32 = .ok (.iconst 3, 1) := by decide +kernel
theorem dX3_readLink_33 : decode cX3_readLink 33 = .ok (.imul, 1) := by decide +kernel
theorem dX3_readLink_34 : decode cX3_readLink 34 = .ok (.iload_n 2, 1) := by decide +kernel
theorem dX3_readLink_35 : decode cX3_readLink 35 = .ok (.iadd, 1) := by decide +kernel
theorem dX3_readLink_36 : decode cX3_readLink 36 = .ok (.iaload, 1) := by decide +kernel
theorem dX3_readLink_37 : decode cX3_readLink 37 = .ok (.sipush 1000, 3) := by decide +kernel
theorem dX3_readLink_40 : decode cX3_readLink 40 = .ok (.if_icmp .eq 8, 3) := by decide +kernel
theorem dX3_readLink_43 : decode cX3_readLink 43 = .ok (.aload_n 0, 1) := by decide +kernel
theorem dX3_readLink_44 : decode cX3_readLink 44 = .ok (.iconst 3, 1) := by decide +kernel
theorem dX3_readLink_45 : decode cX3_readLink 45 = .ok (.invokevirtual 110, 3) := by decide +kernel
theorem dX3_readLink_48 : decode cX3_readLink 48 = .ok (.aload_n 0, 1) := by decide +kernel
theorem dX3_readLink_49 : decode cX3_readLink 49 = .ok (.iconst 0, 1) := by decide +kernel
theorem dX3_readLink_50 : decode cX3_readLink 50 = .ok (.bipush 99, 2) := by decide +kernel
theorem dX3_readLink_52 : decode cX3_readLink 52 = .ok (.invokevirtual 75, 3) := by decide +kernel
theorem dX3_readLink_55 : decode cX3_readLink 55 = .ok (.istore_n 3, 1) := by decide +kernel
theorem dX3_readLink_56 : decode cX3_readLink 56 = .ok (.aload_n 0, 1) := by decide +kernel
theorem dX3_readLink_57 : decode cX3_readLink 57 = .ok (.getfield 14, 3) := by decide +kernel
theorem dX3_readLink_60 : decode cX3_readLink 60 = .ok (.getfield 155, 3) := by decide +kernel
theorem dX3_readLink_63 : decode cX3_readLink 63 = .ok (.iload_n 1, 1) := by decide +kernel
theorem dX3_readLink_64 : decode cX3_readLink 64 = .ok (.iconst 3, 1) := by decide +kernel
theorem dX3_readLink_65 : decode cX3_readLink 65 = .ok (.imul, 1) := by decide +kernel
theorem dX3_readLink_66 : decode cX3_readLink 66 = .ok (.iload_n 2, 1) := by decide +kernel
theorem dX3_readLink_67 : decode cX3_readLink 67 = .ok (.iadd, 1) := by decide +kernel
theorem dX3_readLink_68 : decode cX3_readLink 68 = .ok (.iload_n 3, 1) := by decide +kernel
theorem dX3_readLink_69 : decode cX3_readLink 69 = .ok (.iastore, 1) := by decide +kernel
theorem dX3_readLink_70 : decode cX3_readLink 70 = .ok (.aload_n 0, 1) := by decide +kernel
theorem dX3_readLink_71 : decode cX3_readLink 71 = .ok (.getfield 14, 3) := by decide +kernel
theorem dX3_readLink_74 : decode cX3_readLink 74 = .ok (.getfield 155, 3) := by decide +kernel
theorem dX3_readLink_77 : decode cX3_readLink 77 = .ok (.iload_n 2, 1) := by decide +kernel
theorem dX3_readLink_78 : decode cX3_readLink 78 = .ok (.iconst 3, 1) := by decide +kernel
theorem dX3_readLink_79 : decode cX3_readLink 79 = .ok (.imul, 1) := by decide +kernel
theorem dX3_readLink_80 : decode cX3_readLink 80 = .ok (.iload_n 1, 1) := by decide +kernel
theorem dX3_readLink_81 : decode cX3_readLink 81 = .ok (.iadd, 1) := by decide +kernel
theorem dX3_readLink_82 : decode cX3_readLink 82 = .ok (.iload_n 3, 1) := by decide +kernel
theorem dX3_readLink_83 : decode cX3_readLink 83 = .ok (.iastore, 1) := by decide +kernel
theorem dX3_readLink_84 : decode cX3_readLink 84 = .ok (.return_, 1) := by decide +kernel
theorem dX3_takeNumber_0 : decode cX3_takeNumber 0 = .ok (.aload_n 0, 1) := by decide +kernel
theorem dX3_takeNumber_1 : decode cX3_takeNumber 1 = .ok (.getfield 31, 3) := by decide +kernel
theorem dX3_takeNumber_4 : decode cX3_takeNumber 4 = .ok (.ifCond .eq 5, 3) := by decide +kernel
theorem dX3_takeNumber_7 : decode cX3_takeNumber 7 = .ok (.iload_n 1, 1) := by decide +kernel
theorem dX3_takeNumber_8 : decode cX3_takeNumber 8 = .ok (.ireturn, 1) := by decide +kernel
theorem dX3_takeNumber_9 : decode cX3_takeNumber 9 = .ok (.aload_n 0, 1) := by decide +kernel
theorem dX3_takeNumber_10 : decode cX3_takeNumber 10 = .ok (.invokevirtual 59, 3) := by decide +kernel
theorem dX3_takeNumber_13 : decode cX3_takeNumber 13 = .ok (.aload_n 0, 1) := by decide +kernel
theorem dX3_takeNumber_14 : decode cX3_takeNumber 14 = .ok (.getfield 22, 3) := by decide +kernel
theorem dX3_takeNumber_17 : decode cX3_takeNumber 17 = .ok (.iconst 2, 1) := by decide +kernel
theorem dX3_takeNumber_18 : decode cX3_takeNumber 18 = .ok (.if_icmp .eq 10, 3) := by decide +kernel
theorem dX3_takeNumber_21 : decode cX3_takeNumber 21 = .ok (.aload_n 0, 1) := by decide +kernel
theorem dX3_takeNumber_22 : decode cX3_takeNumber 22 = .ok (.iconst 1, 1) := by decide +kernel
theorem dX3_takeNumber_23 : decode cX3_takeNumber 23 = .ok (.invokevirtual 110, 3) := by decide +kernel
theorem dX3_takeNumber_26 : decode cX3_takeNumber 26 = .ok (.iload_n 1, 1) := by decide +kernel
theorem dX3_takeNumber_27 : decode cX3_takeNumber 27 = .ok (.ireturn, 1) := by decide +kernel
theorem dX3_takeNumber_28 : decode cX3_takeNumber 28 = .ok (.aload_n 0, 1) := by decide +kernel
theorem dX3_takeNumber_29 : decode cX3_takeNumber 29 = .ok (.getfield 28, 3) := by decide +kernel
theorem dX3_takeNumber_32 : decode cX3_takeNumber 32 = .ok (.iload_n 1, 1) := by decide +kernel
theorem dX3_takeNumber_33 : decode cX3_takeNumber 33 = .ok (.if_icmp .lt 11, 3) := by decide +kernel
theorem dX3_takeNumber_36 : decode cX3_takeNumber 36 = .ok (.aload_n 0, 1) := by decide +kernel
theorem dX3_takeNumber_37 : decode cX3_takeNumber 37 = .ok (.getfield 28, 3) := by decide +kernel
theorem dX3_takeNumber_40 : decode cX3_takeNumber 40 = .ok (.iload_n 2, 1) := by decide +kernel
theorem dX3_takeNumber_41 : decode cX3_takeNumber 41 = .ok (.if_icmp .le 10, 3) := by decide +kernel
theorem dX3_takeNumber_44 : decode cX3_takeNumber 44 = .ok (.aload_n 0, 1) := by decide +kernel
theorem dX3_takeNumber_45 : decode cX3_takeNumber 45 = .ok (.iconst 2, 1) := by decide +kernel
theorem dX3_takeNumber_46 : decode cX3_takeNumber 46 = .ok (.invokevirtual 110, 3) := by decide +kernel
theorem dX3_takeNumber_49 : decode cX3_takeNumber 49 = .ok (.iload_n 1, 1) := by decide +kernel
theorem dX3_takeNumber_50 : decode cX3_takeNumber 50 = .ok (.ireturn, 1) := by decide +kernel
theorem dX3_takeNumber_51 : decode cX3_takeNumber 51 = .ok (.aload_n 0, 1) := by decide +kernel
theorem dX3_takeNumber_52 : decode cX3_takeNumber 52 = .ok (.getfield 28, 3) := by decide +kernel
theorem dX3_takeNumber_55 : decode cX3_takeNumber 55 = .ok (.ireturn, 1) := by decide +kernel
theorem dX3_takeName_0 : decode cX3_takeName 0 = .ok (.aload_n 0, 1) := by decide +kernel
theorem dX3_takeName_1 : decode cX3_takeName 1 = .ok (.getfield 31, 3) := by decide +kernel
theorem dX3_takeName_4 : decode cX3_takeName 4 = .ok (.ifCond .eq 5, 3) := by decide +kernel
theorem dX3_takeName_7 : decode cX3_takeName 7 = .ok (.iconst 0, 1) := by decide +kernel
theorem dX3_takeName_8 : decode cX3_takeName 8 = .ok (.ireturn, 1) := by decide +kernel
theorem dX3_takeName_9 : decode cX3_takeName 9 = .ok (.aload_n 0, 1) := by decide +kernel
theorem dX3_takeName_10 : decode cX3_takeName 10 = .ok (.invokevirtual 59, 3) := by decide +kernel
theorem dX3_takeName_13 : decode cX3_takeName 13 = .ok (.aload_n 0, 1) := by decide +kernel
theorem dX3_takeName_14 : decode cX3_takeName 14 = .ok (.getfield 22, 3) := by decide +kernel
theorem dX3_takeName_17 : decode cX3_takeName 17 = .ok (.iconst 1, 1) := by decide +kernel
theorem dX3_takeName_18 : decode cX3_takeName 18 = .ok (.if_icmp .ne 13, 3) := by decide +kernel
theorem dX3_takeName_21 : decode cX3_takeName 21 = .ok (.aload_n 0, 1) := by decide +kernel
theorem dX3_takeName_22 : decode cX3_takeName 22 = .ok (.getfield 28, 3) := by decide +kernel
theorem dX3_takeName_25 : decode cX3_takeName 25 = .ok (.invokestatic 158, 3) := by decide +kernel
theorem dX3_takeName_28 : decode cX3_takeName 28 = .ok (.ifCond .eq 10, 3) := by decide +kernel
theorem dX3_takeName_31 : decode cX3_takeName 31 = .ok (.aload_n 0, 1) := by decide +kernel
theorem dX3_takeName_32 : decode cX3_takeName 32 = .ok (.iconst 1, 1) := by decide +kernel
theorem dX3_takeName_33 : decode cX3_takeName 33 = .ok (.invokevirtual 110, 3) := by decide +kernel
theorem dX3_takeName_36 : decode cX3_takeName 36 = .ok (.iconst 0, 1) := by decide +kernel
theorem dX3_takeName_37 : decode cX3_takeName 37 = .ok (.ireturn, 1) := by decide +kernel
theorem dX3_takeName_38 : decode cX3_takeName 38 = .ok (.aload_n 0, 1) := by decide +kernel
theorem dX3_takeName_39 : decode cX3_takeName 39 = .ok (.getfield 28, 3) := by decide +kernel
theorem dX3_takeName_42 : decode cX3_takeName 42 = .ok (.ireturn, 1) := by decide +kernel
theorem dX3_takeUser_0 : decode cX3_takeUser 0 = .ok (.aload_n 0, 1) := by decide +kernel
theorem dX3_takeUser_1 : decode cX3_takeUser 1 = .ok (.getfield 14, 3) := by decide +kernel
theorem dX3_takeUser_4 : decode cX3_takeUser 4 = .ok (.aload_n 0, 1) := by decide +kernel
theorem dX3_takeUser_5 : decode cX3_takeUser 5 = .ok (.invokevirtual 119, 3) := by decide +kernel
theorem dX3_takeUser_8 : decode cX3_takeUser 8 = .ok (.invokevirtual 123, 3) := by decide +kernel
theorem dX3_takeUser_11 : decode cX3_takeUser 11 = .ok (.istore_n 1, 1) := by decide +kernel
theorem dX3_takeUser_12 : decode cX3_takeUser 12 = .ok (.iload_n 1, 1) := by decide +kernel
theorem dX3_takeUser_13 : decode cX3_takeUser 13 = .ok (.ifCond .ge 8, 3) := by decide +kernel
theorem dX3_takeUser_16 : decode cX3_takeUser 16 = .ok (.aload_n 0, 1) := by decide +kernel
theorem dX3_takeUser_17 : decode cX3_takeUser 17 = .ok (.iconst 4, 1) := by decide +kernel
theorem dX3_takeUser_18 : decode cX3_takeUser 18 = .ok (.invokevirtual 110, 3) := by decide +kernel
theorem dX3_takeUser_21 : decode cX3_takeUser 21 = .ok (.iload_n 1, 1) := by decide +kernel
theorem dX3_takeUser_22 : decode cX3_takeUser 22 = .ok (.ireturn, 1) := by decide +kernel
theorem dX3_isOfLanguage_0 : decode cX3_isOfLanguage 0 = .ok (.iload_n 0, 1) := by decide +kernel
theorem dX3_isOfLanguage_1 : decode cX3_isOfLanguage 1 = .ok (.lookupswitch 101 #[(68620288, 99), (80186720, 99), (211555456, 99), (256952448, 99), (412560384, 99), (419023872, 99), (522327635, 99), (642945024, 99), (650629728, 99), (654347424, 99), (724748288, 99)], 99) := by decide +kernel
theorem dX3_isOfLanguage_100 : decode cX3_isOfLanguage 100 = .ok (.iconst 1, 1) := by decide +kernel
theorem dX3_isOfLanguage_101 : decode cX3_isOfLanguage 101 = .ok (.ireturn, 1) := by decide +kernel
theorem dX3_isOfLanguage_102 : decode cX3_isOfLanguage 102 = .ok (.iconst 0, 1) := by decide +kernel
theorem dX3_isOfLanguage_103 : decode cX3_isOfLanguage 103 = .ok (.ireturn, 1) := by decide +kernel
theorem dX3_next_0 : decode cX3_next 0 = .ok (.aload_n 0, 1) := by decide +kernel
theorem dX3_next_1 : decode cX3_next 1 = .ok (.getfield 18, 3) := by decide +kernel
theorem dX3_next_4 : decode cX3_next 4 = .ok (.aload_n 0, 1) := by decide +kernel
theorem dX3_next_5 : decode cX3_next 5 = .ok (.getfield 56, 3) := by decide +kernel
theorem dX3_next_8 : decode cX3_next 8 = .ok (.if_icmp .ge 44, 3) := by decide +kernel
theorem dX3_next_11 : decode cX3_next 11 = .ok (.aload_n 0, 1) := by decide +kernel
theorem dX3_next_12 : decode cX3_next 12 = .ok (.getfield 52, 3) := by decide +kernel
theorem dX3_next_15 : decode cX3_next 15 = .ok (.aload_n 0, 1) := by decide +kernel
theorem dX3_next_16 : decode cX3_next 16 = .ok (.getfield 18, 3) := by decide +kernel
theorem dX3_next_19 : decode cX3_next 19 = .ok (.iaload, 1) := by decide +kernel
theorem dX3_next_20 : decode cX3_next 20 = .ok (.bipush 10, 2) := by decide +kernel
theorem dX3_next_22 : decode cX3_next 22 = .ok (.if_icmp .eq 17, 3) := by decide +kernel
theorem dX3_next_25 : decode cX3_next 25 = .ok (.aload_n 0, 1) := by decide +kernel
theorem dX3_next_26 : decode cX3_next 26 = .ok (.getfield 52, 3) := by decide +kernel
theorem dX3_next_29 : decode cX3_next 29 = .ok (.aload_n 0, 1) := by decide +kernel
theorem dX3_next_30 : decode cX3_next 30 = .ok (.getfield 18, 3) := by decide +kernel
theorem dX3_next_33 : decode cX3_next 33 = .ok (.iaload, 1) := by decide +kernel
theorem dX3_next_34 : decode cX3_next 34 = .ok (.bipush 32, 2) := by decide +kernel
theorem dX3_next_36 : decode cX3_next 36 = .ok (.if_icmp .ne 16, 3) := by decide +kernel
theorem dX3_next_39 : decode cX3_next 39 = .ok (.aload_n 0, 1) := by decide +kernel
theorem dX3_next_40 : decode cX3_next 40 = .ok (.dup, 1) := by decide +kernel
theorem dX3_next_41 : decode cX3_next 41 = .ok (.getfield 18, 3) := by decide +kernel
theorem dX3_next_44 : decode cX3_next 44 = .ok (.iconst 1, 1) := by decide +kernel
theorem dX3_next_45 : decode cX3_next 45 = .ok (.iadd, 1) := by decide +kernel
theorem dX3_next_46 : decode cX3_next 46 = .ok (.putfield 18, 3) := by decide +kernel
theorem dX3_next_49 : decode cX3_next 49 = .ok (.goto (-49), 3) := by decide +kernel
theorem dX3_next_52 : decode cX3_next 52 = .ok (.aload_n 0, 1) := by decide +kernel
theorem dX3_next_53 : decode cX3_next 53 = .ok (.aload_n 0, 1) := by decide +kernel
theorem dX3_next_54 : decode cX3_next 54 = .ok (.getfield 18, 3) := by decide +kernel
theorem dX3_next_57 : decode cX3_next 57 = .ok (.putfield 25, 3) := by decide +kernel
theorem dX3_next_60 : decode cX3_next 60 = .ok (.aload_n 0, 1) := by decide +kernel
theorem dX3_next_61 : decode cX3_next 61 = .ok (.iconst 0, 1) := by decide +kernel
theorem dX3_next_62 : decode cX3_next 62 = .ok (.putfield 28, 3) := by decide +kernel
theorem dX3_next_65 : decode cX3_next 65 = .ok (.aload_n 0, 1) := by decide +kernel
theorem dX3_next_66 : decode cX3_next 66 = .ok (.getfield 18, 3) := by decide +kernel
theorem dX3_next_69 : decode cX3_next 69 = .ok (.aload_n 0, 1) := by decide +kernel
theorem dX3_next_70 : decode cX3_next 70 = .ok (.getfield 56, 3) := by decide +kernel
theorem dX3_next_73 : decode cX3_next 73 = .ok (.if_icmp .ge 15, 3) := by decide +kernel
theorem dX3_next_76 : decode cX3_next 76 = .ok (.aload_n 0, 1) := by decide +kernel
theorem dX3_next_77 : decode cX3_next 77 = .ok (.getfield 52, 3) := by decide +kernel
theorem dX3_next_80 : decode cX3_next 80 = .ok (.aload_n 0, 1) := by decide +kernel
theorem dX3_next_81 : decode cX3_next 81 = .ok (.getfield 18, 3) := by decide +kernel
theorem dX3_next_84 : decode cX3_next 84 = .ok (.iaload, 1) := by decide +kernel
theorem dX3_next_85 : decode cX3_next 85 = .ok (.goto 4, 3) := by decide +kernel
theorem dX3_next_88 : decode cX3_next 88 = .ok (.iconst 0, 1) := by decide +kernel
theorem dX3_next_89 : decode cX3_next 89 = .ok (.istore_n 1, 1) := by decide +kernel
theorem dX3_next_90 : decode cX3_next 90 = .ok (.aload_n 0, 1) := by decide +kernel
theorem dX3_next_91 : decode cX3_next 91 = .ok (.getfield 18, 3) := by decide +kernel
theorem dX3_next_94 : decode cX3_next 94 = .ok (.aload_n 0, 1) := by decide +kernel
theorem dX3_next_95 : decode cX3_next 95 = .ok (.getfield 56, 3) := by decide +kernel
theorem dX3_next_98 : decode cX3_next 98 = .ok (.if_icmp .lt 11, 3) := by decide +kernel
theorem dX3_next_101 : decode cX3_next 101 = .ok (.aload_n 0, 1) := by decide +kernel
theorem dX3_next_102 : decode cX3_next 102 = .ok (.iconst 0, 1) := by decide +kernel
theorem dX3_next_103 : decode cX3_next 103 = .ok (.putfield 22, 3) := by decide +kernel
theorem dX3_next_106 : decode cX3_next 106 = .ok (.goto 66, 3) := by decide +kernel
theorem dX3_next_109 : decode cX3_next 109 = .ok (.iload_n 1, 1) := by decide +kernel
theorem dX3_next_110 : decode cX3_next 110 = .ok (.bipush 97, 2) := by decide +kernel
theorem dX3_next_112 : decode cX3_next 112 = .ok (.if_icmp .lt 16, 3) := by decide +kernel
theorem dX3_next_115 : decode cX3_next 115 = .ok (.iload_n 1, 1) := by decide +kernel
theorem dX3_next_116 : decode cX3_next 116 = .ok (.bipush 122, 2) := by decide +kernel
theorem dX3_next_118 : decode cX3_next 118 = .ok (.if_icmp .gt 10, 3) := by decide +kernel
theorem dX3_next_121 : decode cX3_next 121 = .ok (.aload_n 0, 1) := by decide +kernel
theorem dX3_next_122 : decode cX3_next 122 = .ok (.invokevirtual 162, 3) := by decide +kernel
theorem dX3_next_125 : decode cX3_next 125 = .ok (.goto 47, 3) := by decide +kernel
theorem dX3_next_128 : decode cX3_next 128 = .ok (.iload_n 1, 1) := by decide +kernel
theorem dX3_next_129 : decode cX3_next 129 = .ok (.bipush 48, 2) := by decide +kernel
theorem dX3_next_131 : decode cX3_next 131 = .ok (.if_icmp .lt 16, 3) := by decide +kernel
theorem dX3_next_134 : decode cX3_next 134 = .ok (.iload_n 1, 1) := by decide +kernel
theorem dX3_next_135 : decode cX3_next 135 = .ok (.bipush 57, 2) := by decide +kernel
theorem dX3_next_137 : decode cX3_next 137 = .ok (.if_icmp .gt 10, 3) := by decide +kernel
theorem dX3_next_140 : decode cX3_next 140 = .ok (.aload_n 0, 1) := by decide +kernel
theorem dX3_next_141 : decode cX3_next 141 = .ok (.invokevirtual 165, 3) := by decide +kernel
theorem dX3_next_144 : decode cX3_next 144 = .ok (.goto 28, 3) := by decide +kernel
theorem dX3_next_147 : decode cX3_next 147 = .ok (.aload_n 0, 1) := by decide +kernel
theorem dX3_next_148 : decode cX3_next 148 = .ok (.iload_n 1, 1) := by decide +kernel
theorem dX3_next_149 : decode cX3_next 149 = .ok (.bipush 59, 2) := by decide +kernel
theorem dX3_next_151 : decode cX3_next 151 = .ok (.if_icmp .ne 7, 3) := by decide +kernel
theorem dX3_next_154 : decode cX3_next 154 = .ok (.iconst 3, 1) := by decide +kernel
theorem dX3_next_155 : decode cX3_next 155 = .ok (.goto 4, 3) := by decide +kernel
theorem dX3_next_158 : decode cX3_next 158 = .ok (.iconst 4, 1) := by decide +kernel
theorem dX3_next_159 : decode cX3_next 159 = .ok (.putfield 22, 3) := by decide +kernel
theorem dX3_next_162 : decode cX3_next 162 = .ok (.aload_n 0, 1) := by decide +kernel
theorem dX3_next_163 : decode cX3_next 163 = .ok (.dup, 1) := by decide +kernel
theorem dX3_next_164 : decode cX3_next 164 = .ok (.getfield 18, 3) := by decide +kernel
theorem dX3_next_167 : decode cX3_next 167 = .ok (.iconst 1, 1) := by decide +kernel
theorem dX3_next_168 : decode cX3_next 168 = .ok (.iadd, 1) := by decide +kernel
theorem dX3_next_169 : decode cX3_next 169 = .ok (.putfield 18, 3) := by decide +kernel
theorem dX3_next_172 : decode cX3_next 172 = .ok (.return_, 1) := by decide +kernel
theorem dX3_readLetters_0 : decode cX3_readLetters 0 = .ok (.iconst 0, 1) := by decide +kernel
theorem dX3_readLetters_1 : decode cX3_readLetters 1 = .ok (.istore_n 1, 1) := by decide +kernel
theorem dX3_readLetters_2 : decode cX3_readLetters 2 = .ok (.aload_n 0, 1) := by decide +kernel
theorem dX3_readLetters_3 : decode cX3_readLetters 3 = .ok (.getfield 18, 3) := by decide +kernel
theorem dX3_readLetters_6 : decode cX3_readLetters 6 = .ok (.aload_n 0, 1) := by decide +kernel
theorem dX3_readLetters_7 : decode cX3_readLetters 7 = .ok (.getfield 56, 3) := by decide +kernel
theorem dX3_readLetters_10 : decode cX3_readLetters 10 = .ok (.if_icmp .ge 81, 3) := by decide +kernel
theorem dX3_readLetters_13 : decode cX3_readLetters 13 = .ok (.aload_n 0, 1) := by decide +kernel
theorem dX3_readLetters_14 : decode cX3_readLetters 14 = .ok (.getfield 52, 3) := by decide +kernel
theorem dX3_readLetters_17 : decode cX3_readLetters 17 = .ok (.aload_n 0, 1) := by decide +kernel
theorem dX3_readLetters_18 : decode cX3_readLetters 18 = .ok (.getfield 18, 3) := by decide +kernel
theorem dX3_readLetters_21 : decode cX3_readLetters 21 = .ok (.iaload, 1) := by decide +kernel
theorem dX3_readLetters_22 : decode cX3_readLetters 22 = .ok (.bipush 97, 2) := by decide +kernel
theorem dX3_readLetters_24 : decode cX3_readLetters 24 = .ok (.if_icmp .lt 67, 3) := by decide +kernel
theorem dX3_readLetters_27 : decode cX3_readLetters 27 = .ok (.aload_n 0, 1) := by decide +kernel
theorem dX3_readLetters_28 : decode cX3_readLetters 28 = .ok (.getfield 52, 3) := by decide +kernel
theorem dX3_readLetters_31 : decode cX3_readLetters 31 = .ok (.aload_n 0, 1) := by decide +kernel
theorem dX3_readLetters_32 : decode cX3_readLetters 32 = .ok (.getfield 18, 3) := by decide +kernel
theorem dX3_readLetters_35 : decode cX3_readLetters 35 = .ok (.iaload, 1) := by decide +kernel
theorem dX3_readLetters_36 : decode cX3_readLetters 36 = .ok (.bipush 122, 2) := by decide +kernel
theorem dX3_readLetters_38 : decode cX3_readLetters 38 = .ok (.if_icmp .gt 53, 3) := by decide +kernel
theorem dX3_readLetters_41 : decode cX3_readLetters 41 = .ok (.iload_n 1, 1) := by decide +kernel
theorem dX3_readLetters_42 : decode cX3_readLetters 42 = .ok (.bipush 6, 2) := by decide +kernel
theorem dX3_readLetters_44 : decode cX3_readLetters 44 = .ok (.if_icmp .ge 31, 3) := by decide +kernel
theorem dX3_readLetters_47 : decode cX3_readLetters 47 = .ok (.aload_n 0, 1) := by decide +kernel
theorem dX3_readLetters_48 : decode cX3_readLetters 48 = .ok (.dup, 1) := by decide +kernel
theorem dX3_readLetters_49 : decode cX3_readLetters 49 = .ok (.getfield 28, 3) := by decide +kernel
theorem dX3_readLetters_52 : decode cX3_readLetters 52 = .ok (.aload_n 0, 1) := by decide +kernel
theorem dX3_readLetters_53 : decode cX3_readLetters 53 = .ok (.getfield 52, 3) := by decide +kernel
theorem dX3_readLetters_56 : decode cX3_readLetters 56 = .ok (.aload_n 0, 1) := by decide +kernel
theorem dX3_readLetters_57 : decode cX3_readLetters 57 = .ok (.getfield 18, 3) := by decide +kernel
theorem dX3_readLetters_60 : decode cX3_readLetters 60 = .ok (.iaload, 1) := by decide +kernel
theorem dX3_readLetters_61 : decode cX3_readLetters 61 = .ok (.bipush 96, 2) := by decide +kernel
theorem dX3_readLetters_63 : decode cX3_readLetters 63 = .ok (.isub, 1) := by decide +kernel
theorem dX3_readLetters_64 : decode cX3_readLetters 64 = .ok (.bipush 25, 2) := by decide +kernel
theorem dX3_readLetters_66 : decode cX3_readLetters 66 = .ok (.iconst 5, 1) := by decide +kernel
theorem dX3_readLetters_67 : decode cX3_readLetters 67 = .ok (.iload_n 1, 1) := by decide +kernel
theorem dX3_readLetters_68 : decode cX3_readLetters 68 = .ok (.imul, 1) := by decide +kernel
theorem dX3_readLetters_69 : decode cX3_readLetters 69 = .ok (.isub, 1) := by decide +kernel
theorem dX3_readLetters_70 : decode cX3_readLetters 70 = .ok (.ishl, 1) := by decide +kernel
theorem dX3_readLetters_71 : decode cX3_readLetters 71 = .ok (.ior, 1) := by decide +kernel
theorem dX3_readLetters_72 : decode cX3_readLetters 72 = .ok (.putfield 28, 3) := by decide +kernel
theorem dX3_readLetters_75 : decode cX3_readLetters 75 = .ok (.iinc 1 1, 3) := by decide +kernel
theorem dX3_readLetters_78 : decode cX3_readLetters 78 = .ok (.aload_n 0, 1) := by decide +kernel
theorem dX3_readLetters_79 : decode cX3_readLetters 79 = .ok (.dup, 1) := by decide +kernel
theorem dX3_readLetters_80 : decode cX3_readLetters 80 = .ok (.getfield 18, 3) := by decide +kernel
theorem dX3_readLetters_83 : decode cX3_readLetters 83 = .ok (.iconst 1, 1) := by decide +kernel
theorem dX3_readLetters_84 : decode cX3_readLetters 84 = .ok (.iadd, 1) := by decide +kernel
theorem dX3_readLetters_85 : decode cX3_readLetters 85 = .ok (.putfield 18, 3) := by decide +kernel
theorem dX3_readLetters_88 : decode cX3_readLetters 88 = .ok (.goto (-86), 3) := by decide +kernel
theorem dX3_readLetters_91 : decode cX3_readLetters 91 = .ok (.aload_n 0, 1) := by decide +kernel
theorem dX3_readLetters_92 : decode cX3_readLetters 92 = .ok (.iload_n 1, 1) := by decide +kernel
theorem dX3_readLetters_93 : decode cX3_readLetters 93 = .ok (.bipush 6, 2) := by decide +kernel
theorem dX3_readLetters_95 : decode cX3_readLetters 95 = .ok (.if_icmp .gt 7, 3) := by decide +kernel
theorem dX3_readLetters_98 : decode cX3_readLetters 98 = .ok (.iconst 1, 1) := by decide +kernel
theorem dX3_readLetters_99 : decode cX3_readLetters 99 = .ok (.goto 4, 3) := by decide +kernel
theorem dX3_readLetters_102 : decode cX3_readLetters 102 = .ok (.iconst 4, 1) := by decide +kernel
theorem dX3_readLetters_103 : decode cX3_readLetters 103 = .ok (.putfield 22, 3) := by decide +kernel
theorem dX3_readLetters_106 : decode cX3_readLetters 106 = .ok (.return_, 1) := by decide +kernel
theorem dX3_readDigits_0 : decode cX3_readDigits 0 = .ok (.aload_n 0, 1) := by decide +kernel
theorem dX3_readDigits_1 : decode cX3_readDigits 1 = .ok (.getfield 18, 3) := by decide +kernel
theorem dX3_readDigits_4 : decode cX3_readDigits 4 = .ok (.aload_n 0, 1) := by decide +kernel
theorem dX3_readDigits_5 : decode cX3_readDigits 5 = .ok (.getfield 56, 3) := by decide +kernel
theorem dX3_readDigits_8 : decode cX3_readDigits 8 = .ok (.if_icmp .ge 77, 3) := by decide +kernel
theorem dX3_readDigits_11 : decode cX3_readDigits 11 = .ok (.aload_n 0, 1) := by decide +kernel
theorem dX3_readDigits_12 : decode cX3_readDigits 12 = .ok (.getfield 52, 3) := by decide +kernel
theorem dX3_readDigits_15 : decode cX3_readDigits 15 = .ok (.aload_n 0, 1) := by decide +kernel
theorem dX3_readDigits_16 : decode cX3_readDigits 16 = .ok (.getfield 18, 3) := by decide +kernel
theorem dX3_readDigits_19 : decode cX3_readDigits 19 = .ok (.iaload, 1) := by decide +kernel
theorem dX3_readDigits_20 : decode cX3_readDigits 20 = .ok (.bipush 48, 2) := by decide +kernel
theorem dX3_readDigits_22 : decode cX3_readDigits 22 = .ok (.if_icmp .lt 63, 3) := by decide +kernel
theorem dX3_readDigits_25 : decode cX3_readDigits 25 = .ok (.aload_n 0, 1) := by decide +kernel
theorem dX3_readDigits_26 : decode cX3_readDigits 26 = .ok (.getfield 52, 3) := by decide +kernel
theorem dX3_readDigits_29 : decode cX3_readDigits 29 = .ok (.aload_n 0, 1) := by decide +kernel
theorem dX3_readDigits_30 : decode cX3_readDigits 30 = .ok (.getfield 18, 3) := by decide +kernel
theorem dX3_readDigits_33 : decode cX3_readDigits 33 = .ok (.iaload, 1) := by decide +kernel
theorem dX3_readDigits_34 : decode cX3_readDigits 34 = .ok (.bipush 57, 2) := by decide +kernel
theorem dX3_readDigits_36 : decode cX3_readDigits 36 = .ok (.if_icmp .gt 49, 3) := by decide +kernel
theorem dX3_readDigits_39 : decode cX3_readDigits 39 = .ok (.aload_n 0, 1) := by decide +kernel
theorem dX3_readDigits_40 : decode cX3_readDigits 40 = .ok (.getfield 28, 3) := by decide +kernel
theorem dX3_readDigits_43 : decode cX3_readDigits 43 = .ok (.ldc 168, 2) := by decide +kernel
theorem dX3_readDigits_45 : decode cX3_readDigits 45 = .ok (.if_icmp .ge 27, 3) := by decide +kernel
theorem dX3_readDigits_48 : decode cX3_readDigits 48 = .ok (.aload_n 0, 1) := by decide +kernel
theorem dX3_readDigits_49 : decode cX3_readDigits 49 = .ok (.aload_n 0, 1) := by decide +kernel
theorem dX3_readDigits_50 : decode cX3_readDigits 50 = .ok (.getfield 28, 3) := by decide +kernel
theorem dX3_readDigits_53 : decode cX3_readDigits 53 = .ok (.bipush 10, 2) := by decide +kernel
theorem dX3_readDigits_55 : decode cX3_readDigits 55 = .ok (.imul, 1) := by decide +kernel
theorem dX3_readDigits_56 : decode cX3_readDigits 56 = .ok (.aload_n 0, 1) := by decide +kernel
theorem dX3_readDigits_57 : decode cX3_readDigits 57 = .ok (.getfield 52, 3) := by decide +kernel
theorem dX3_readDigits_60 : decode cX3_readDigits 60 = .ok (.aload_n 0, 1) := by decide +kernel
theorem dX3_readDigits_61 : decode cX3_readDigits 61 = .ok (.getfield 18, 3) := by decide +kernel
theorem dX3_readDigits_64 : decode cX3_readDigits 64 = .ok (.iaload, 1) := by decide +kernel
theorem dX3_readDigits_65 : decode cX3_readDigits 65 = .ok (.bipush 48, 2) := by decide +kernel
theorem dX3_readDigits_67 : decode cX3_readDigits 67 = .ok (.isub, 1) := by decide +kernel
theorem dX3_readDigits_68 : decode cX3_readDigits 68 = .ok (.iadd, 1) := by decide +kernel
theorem dX3_readDigits_69 : decode cX3_readDigits 69 = .ok (.putfield 28, 3) := by decide +kernel
theorem dX3_readDigits_72 : decode cX3_readDigits 72 = .ok (.aload_n 0, 1) := by decide +kernel
theorem dX3_readDigits_73 : decode cX3_readDigits 73 = .ok (.dup, 1) := by decide +kernel
theorem dX3_readDigits_74 : decode cX3_readDigits 74 = .ok (.getfield 18, 3) := by decide +kernel
theorem dX3_readDigits_77 : decode cX3_readDigits 77 = .ok (.iconst 1, 1) := by decide +kernel
theorem dX3_readDigits_78 : decode cX3_readDigits 78 = .ok (.iadd, 1) := by decide +kernel
theorem dX3_readDigits_79 : decode cX3_readDigits 79 = .ok (.putfield 18, 3) := by decide +kernel
theorem dX3_readDigits_82 : decode cX3_readDigits 82 = .ok (.goto (-82), 3) := by decide +kernel
theorem dX3_readDigits_85 : decode cX3_readDigits 85 = .ok (.aload_n 0, 1) := by decide +kernel
theorem dX3_readDigits_86 : decode cX3_readDigits 86 = .ok (.iconst 2, 1) := by decide +kernel
theorem dX3_readDigits_87 : decode cX3_readDigits 87 = .ok (.putfield 22, 3) := by decide +kernel
theorem dX3_readDigits_90 : decode cX3_readDigits 90 = .ok (.return_, 1) := by decide +kernel
theorem dX4_init_0 : decode cX4_init 0 = .ok (.aload_n 0, 1) := by decide +kernel
theorem dX4_init_1 : decode cX4_init 1 = .ok (.invokespecial 3, 3) := by decide +kernel
theorem dX4_init_4 : decode cX4_init 4 = .ok (.aload_n 0, 1) := by decide +kernel
theorem dX4_init_5 : decode cX4_init 5 = .ok (.iconst 0, 1) := by decide +kernel
theorem dX4_init_6 : decode cX4_init 6 = .ok (.putfield 9, 3) := by decide +kernel
theorem dX4_init_9 : decode cX4_init 9 = .ok (.aload_n 0, 1) := by decide +kernel
theorem dX4_init_10 : decode cX4_init 10 = .ok (.bipush 30, 2) := by decide +kernel
theorem dX4_init_12 : decode cX4_init 12 = .ok (.putfield 15, 3) := by decide +kernel
theorem dX4_init_15 : decode cX4_init 15 = .ok (.aload_n 0, 1) := by decide +kernel
theorem dX4_init_16 : decode cX4_init 16 = .ok (.iconst 0, 1) := by decide +kernel
theorem dX4_init_17 : decode cX4_init 17 = .ok (.putfield 18, 3) := by decide +kernel
theorem dX4_init_20 : decode cX4_init 20 = .ok (.aload_n 0, 1) := by decide +kernel
theorem dX4_init_21 : decode cX4_init 21 = .ok (.iconst 1, 1) := by decide +kernel
theorem dX4_init_22 : decode cX4_init 22 = .ok (.putfield 21, 3) := by decide +kernel
theorem dX4_init_25 : decode cX4_init 25 = .ok (.aload_n 0, 1) := by decide +kernel
theorem dX4_init_26 : decode cX4_init 26 = .ok (.iconst 2, 1) := by decide +kernel
theorem dX4_init_27 : decode cX4_init 27 = .ok (.putfield 24, 3) := by decide +kernel
theorem dX4_init_30 : decode cX4_init 30 = .ok (.aload_n 0, 1) := by decide +kernel
theorem dX4_init_31 : decode cX4_init 31 = .ok (.iconst 0, 1) := by decide +kernel
theorem dX4_init_32 : decode cX4_init 32 = .ok (.putfield 27, 3) := by decide +kernel
theorem dX4_init_35 : decode cX4_init 35 = .ok (.aload_n 0, 1) := by decide +kernel
theorem dX4_init_36 : decode cX4_init 36 = .ok (.lconst 0, 1) := by decide +kernel
theorem dX4_init_37 : decode cX4_init 37 = .ok (.putfield 30, 3) := by decide +kernel
theorem dX4_init_40 : decode cX4_init 40 = .ok (.aload_n 0, 1) := by decide +kernel
theorem dX4_init_41 : decode cX4_init 41 = .ok (.iconst 3, 1) := by decide +kernel
theorem dX4_init_42 : decode cX4_init 42 = .ok (.newarray .int, 2) := by decide +kernel
theorem dX4_init_44 : decode cX4_init 44 = .ok (.dup, 1) := by decide +kernel
theorem dX4_init_45 : decode cX4_init 45 = .ok (.iconst 0, 1) := by decide +kernel
theorem dX4_init_46 : decode cX4_init 46 = .ok (.iconst 5, 1) := by decide +kernel
theorem dX4_init_47 : decode cX4_init 47 = .ok (.iastore, 1) := by decide +kernel
theorem dX4_init_48 : decode cX4_init 48 = .ok (.dup, 1) := by decide +kernel
theorem dX4_init_49 : decode cX4_init 49 = .ok (.iconst 1, 1) := by decide +kernel
theorem dX4_init_50 : decode cX4_init 50 = .ok (.bipush 10, 2) := by decide +kernel
theorem dX4_init_52 : decode cX4_init 52 = .ok (.iastore, 1) := by decide +kernel
theorem dX4_init_53 : decode cX4_init 53 = .ok (.dup, 1) := by decide +kernel
theorem dX4_init_54 : decode cX4_init 54 = .ok (.iconst 2, 1) := by decide +kernel
theorem dX4_init_55 : decode cX4_init 55 = .ok (.bipush 20, 2) := by decide +kernel
theorem dX4_init_57 : decode cX4_init 57 = .ok (.iastore, 1) := by decide +kernel
theorem dX4_init_58 : decode cX4_init 58 = .ok (.putfield 34, 3) := by decide +kernel
theorem dX4_init_61 : decode cX4_init 61 = .ok (.aload_n 0, 1) := by decide +kernel
theorem dX4_init_62 : decode cX4_init 62 = .ok (.bipush 9, 2) := by decide +kernel
theorem dX4_init_64 : decode cX4_init 64 = .ok (.newarray .int, 2) := by decide +kernel
theorem dX4_init_66 : decode cX4_init 66 = .ok (.dup, 1) := by decide +kernel
theorem dX4_init_67 : decode cX4_init 67 = .ok (.iconst 0, 1) := by decide +kernel
theorem dX4_init_68 : decode cX4_init 68 = .ok (.iconst 0, 1) := by decide +kernel
theorem dX4_init_69 : decode cX4_init 69 = .ok (.iastore, 1) := by decide +kernel
theorem dX4_init_70 : decode cX4_init 70 = .ok (.dup, 1) := by decide +kernel
theorem dX4_init_71 : decode cX4_init 71 = .ok (.iconst 1, 1) := by decide +kernel
theorem dX4_init_72 : decode cX4_init 72 = .ok (.sipush 1000, 3) := by decide +kernel
theorem dX4_init_75 : decode cX4_init 75 = .ok (.iastore, 1) := by decide +kernel
theorem dX4_init_76 : decode cX4_init 76 = .ok (.dup, 1) := by decide +kernel
theorem dX4_init_77 : decode cX4_init 77 = .ok (.iconst 2, 1) := by decide +kernel
theorem dX4_init_78 : decode cX4_init 78 = .ok (.sipush 1000, 3) := by decide +kernel
theorem dX4_init_81 : decode cX4_init 81 = .ok (.iastore, 1) := by decide +kernel
theorem dX4_init_82 : decode cX4_init 82 = .ok (.dup, 1) := by decide +kernel
theorem dX4_init_83 : decode cX4_init 83 = .ok (.iconst 3, 1) := by decide +kernel
theorem dX4_init_84 : decode cX4_init 84 = .ok (.sipush 1000, 3) := by decide +kernel
theorem dX4_init_87 : decode cX4_init 87 = .ok (.iastore, 1) := by decide +kernel
theorem dX4_init_88 : decode cX4_init 88 = .ok (.dup, 1) := by decide +kernel
theorem dX4_init_89 : decode cX4_init 89 = .ok (.iconst 4, 1) := by decide +kernel
theorem dX4_init_90 : decode cX4_init 90 = .ok (.iconst 0, 1) := by decide +kernel
theorem dX4_init_91 : decode cX4_init 91 = .ok (.iastore, 1) := by decide +kernel
theorem dX4_init_92 : decode cX4_init 92 = .ok (.dup, 1) := by decide +kernel
theorem dX4_init_93 : decode cX4_init 93 = .ok (.iconst 5, 1) := by decide +kernel
theorem dX4_init_94 : decode cX4_init 94 = .ok (.sipush 1000, 3) := by decide +kernel
theorem dX4_init_97 : decode cX4_init 97 = .ok (.iastore, 1) := by decide +kernel
theorem dX4_init_98 : decode cX4_init 98 = .ok (.dup, 1) := by decide +kernel
theorem dX4_init_99 : decode cX4_init 99 = .ok (.bipush 6, 2) := by decide +kernel
theorem dX4_init_101 : decode cX4_init 101 = .ok (.sipush 1000, 3) := by decide +kernel
theorem dX4_init_104 : decode cX4_init 104 = .ok (.iastore, 1) := by decide +kernel
theorem dX4_init_105 : decode cX4_init 105 = .ok (.dup, 1) := by decide +kernel
theorem dX4_init_106 : decode cX4_init 106 = .ok (.bipush 7, 2) := by decide +kernel
theorem dX4_init_108 : decode cX4_init 108 = .ok (.sipush 1000, 3) := by decide +kernel
theorem dX4_init_111 : decode cX4_init 111 = .ok (.iastore, 1) := by decide +kernel
theorem dX4_init_112 : decode cX4_init 112 = .ok (.dup, 1) := by decide +kernel
theorem dX4_init_113 : decode cX4_init 113 = .ok (.bipush 8, 2) := by decide +kernel
theorem dX4_init_115 : decode cX4_init 115 = .ok (.iconst 0, 1) := by decide +kernel
theorem dX4_init_116 : decode cX4_init 116 = .ok (.iastore, 1) := by decide +kernel
theorem dX4_init_117 : decode cX4_init 117 = .ok (.putfield 38, 3) := by decide +kernel
theorem dX4_init_120 : decode cX4_init 120 = .ok (.aload_n 0, 1) := by decide +kernel
theorem dX4_init_121 : decode cX4_init 121 = .ok (.bipush 8, 2) := by decide +kernel
theorem dX4_init_123 : decode cX4_init 123 = .ok (.newarray .int, 2) := by decide +kernel
theorem dX4_init_125 : decode cX4_init 125 = .ok (.putfield 41, 3) := by decide +kernel
theorem dX4_init_128 : decode cX4_init 128 = .ok (.aload_n 0, 1) := by decide +kernel
theorem dX4_init_129 : decode cX4_init 129 = .ok (.bipush 8, 2) := by decide +kernel
theorem dX4_init_131 : decode cX4_init 131 = .ok (.newarray .int, 2) := by decide +kernel
theorem dX4_init_133 : decode cX4_init 133 = .ok (.putfield 44, 3) := by decide +kernel
theorem dX4_init_136 : decode cX4_init 136 = .ok (.aload_n 0, 1) := by decide +kernel
theorem dX4_init_137 : decode cX4_init 137 = .ok (.bipush 8, 2) := by decide +kernel
theorem dX4_init_139 : decode cX4_init 139 = .ok (.newarray .int, 2) := by decide +kernel
theorem dX4_init_141 : decode cX4_init 141 = .ok (.putfield 47, 3) := by decide +kernel
theorem dX4_init_144 : decode cX4_init 144 = .ok (.aload_n 0, 1) := by decide +kernel
theorem dX4_init_145 : decode cX4_init 145 = .ok (.bipush 8, 2) := by decide +kernel
theorem dX4_init_147 : decode cX4_init 147 = .ok (.newarray .int, 2) := by decide +kernel
theorem dX4_init_149 : decode cX4_init 149 = .ok (.putfield 50, 3) := by decide +kernel
theorem dX4_init_152 : decode cX4_init 152 = .ok (.aload_n 0, 1) := by decide +kernel
theorem dX4_init_153 : decode cX4_init 153 = .ok (.bipush 8, 2) := by decide +kernel
theorem dX4_init_155 : decode cX4_init 155 = .ok (.newarray .int, 2) := by decide +kernel
theorem dX4_init_157 : decode cX4_init 157 = .ok (.putfield 53, 3) := by decide +kernel
theorem dX4_init_160 : decode cX4_init 160 = .ok (.aload_n 0, 1) := by decide +kernel
theorem dX4_init_161 : decode cX4_init 161 = .ok (.bipush 8, 2) := by decide +kernel
theorem dX4_init_163 : decode cX4_init 163 = .ok (.newarray .int, 2) := by decide +kernel
theorem dX4_init_165 : decode cX4_init 165 = .ok (.putfield 56, 3) := by decide +kernel
theorem dX4_init_168 : decode cX4_init 168 = .ok (.aload_n 0, 1) := by decide +kernel
theorem dX4_init_169 : decode cX4_init 169 = .ok (.bipush 8, 2) := by decide +kernel
theorem dX4_init_171 : decode cX4_init 171 = .ok (.newarray .int, 2) := by decide +kernel
theorem dX4_init_173 : decode cX4_init 173 = .ok (.putfield 59, 3) := by decide +kernel
theorem dX4_init_176 : decode cX4_init 176 = .ok (.return_, 1) := by decide +kernel
theorem dX4_copyFrom_0 : decode cX4_copyFrom 0 = .ok (.aload_n 0, 1) := by decide +kernel
theorem dX4_copyFrom_1 : decode cX4_copyFrom 1 = .ok (.aload_n 1, 1) := by decide +kernel
theorem dX4_copyFrom_2 : decode cX4_copyFrom 2 = .ok (.getfield 9, 3) := by decide +kernel
theorem dX4_copyFrom_5 : decode cX4_copyFrom 5 = .ok (.putfield 9, 3) := by decide +kernel
theorem dX4_copyFrom_8 : decode cX4_copyFrom 8 = .ok (.aload_n 0, 1) := by decide +kernel
theorem dX4_copyFrom_9 : decode cX4_copyFrom 9 = .ok (.aload_n 1, 1) := by decide +kernel
theorem dX4_copyFrom_10 : decode cX4_copyFrom 10 = .ok (.getfield 15, 3) := by decide +kernel
theorem dX4_copyFrom_13 : decode cX4_copyFrom 13 = .ok (.putfield 15, 3) := by decide +kernel
theorem dX4_copyFrom_16 : decode cX4_copyFrom 16 = .ok (.aload_n 0, 1) := by decide +kernel
theorem dX4_copyFrom_17 : decode cX4_copyFrom 17 = .ok (.aload_n 1, 1) := by decide +kernel
theorem dX4_copyFrom_18 : decode cX4_copyFrom 18 = .ok (.getfield 18, 3) := by decide +kernel
theorem dX4_copyFrom_21 : decode cX4_copyFrom 21 = .ok (.putfield 18, 3) := by decide +kernel
theorem dX4_copyFrom_24 : decode cX4_copyFrom 24 = .ok (.aload_n 0, 1) := by decide +kernel
theorem dX4_copyFrom_25 : decode cX4_copyFrom 25 = .ok (.aload_n 1, 1) := by decide +kernel
theorem dX4_copyFrom_26 : decode cX4_copyFrom 26 = .ok (.getfield 21, 3) := by decide +kernel
theorem dX4_copyFrom_29 : decode cX4_copyFrom 29 = .ok (.putfield 21, 3) := by decide +kernel
theorem dX4_copyFrom_32 : decode cX4_copyFrom 32 = .ok (.aload_n 0, 1) := by decide +kernel
theorem dX4_copyFrom_33 : decode cX4_copyFrom 33 = .ok (.aload_n 1, 1) := by decide +kernel
theorem dX4_copyFrom_34 : decode cX4_copyFrom 34 = .ok (.getfield 24, 3) := by decide +kernel
theorem dX4_copyFrom_37 : decode cX4_copyFrom 37 = .ok (.putfield 24, 3) := by decide +kernel
theorem dX4_copyFrom_40 : decode cX4_copyFrom 40 = .ok (.aload_n 0, 1) := by decide +kernel
theorem dX4_copyFrom_41 : decode cX4_copyFrom 41 = .ok (.aload_n 1, 1) := by decide +kernel
theorem dX4_copyFrom_42 : decode cX4_copyFrom 42 = .ok (.getfield 27, 3) := by decide +kernel
theorem dX4_copyFrom_45 : decode cX4_copyFrom 45 = .ok (.putfield 27, 3) := by decide +kernel
theorem dX4_copyFrom_48 : decode cX4_copyFrom 48 = .ok (.aload_n 0, 1) := by decide +kernel
theorem dX4_copyFrom_49 : decode cX4_copyFrom 49 = .ok (.aload_n 1, 1) := by decide +kernel
theorem dX4_copyFrom_50 : decode cX4_copyFrom 50 = .ok (.getfield 30, 3) := by decide +kernel
theorem dX4_copyFrom_53 : decode cX4_copyFrom 53 = .ok (.putfield 30, 3) := by decide +kernel
theorem dX4_copyFrom_56 : decode cX4_copyFrom 56 = .ok (.aload_n 1, 1) := by decide +kernel
theorem dX4_copyFrom_57 : decode cX4_copyFrom 57 = .ok (.getfield 34, 3) := by decide +kernel
theorem dX4_copyFrom_60 : decode cX4_copyFrom 60 = .ok (.iconst 0, 1) := by decide +kernel
theorem dX4_copyFrom_61 : decode cX4_copyFrom 61 = .ok (.aload_n 0, 1) := by decide +kernel
theorem dX4_copyFrom_62 : decode cX4_copyFrom 62 = .ok (.getfield 34, 3) := by decide +kernel
theorem dX4_copyFrom_65 : decode cX4_copyFrom 65 = .ok (.iconst 0, 1) := by decide +kernel
theorem dX4_copyFrom_66 : decode cX4_copyFrom 66 = .ok (.iconst 3, 1) := by decide +kernel
theorem dX4_copyFrom_67 : decode cX4_copyFrom 67 = .ok (.invokestatic 62, 3) := by decide +kernel
theorem dX4_copyFrom_70 : decode cX4_copyFrom 70 = .ok (.aload_n 1, 1) := by decide +kernel
theorem dX4_copyFrom_71 : decode cX4_copyFrom 71 = .ok (.getfield 38, 3) := by decide +kernel
theorem dX4_copyFrom_74 : decode cX4_copyFrom 74 = .ok (.iconst 0, 1) := by decide +kernel
theorem dX4_copyFrom_75 : decode cX4_copyFrom 75 = .ok (.aload_n 0, 1) := by decide +kernel
theorem dX4_copyFrom_76 : decode cX4_copyFrom 76 = .ok (.getfield 38, 3) := by decide +kernel
theorem dX4_copyFrom_79 : decode cX4_copyFrom 79 = .ok (.iconst 0, 1) := by decide +kernel
theorem dX4_copyFrom_80 : decode cX4_copyFrom 80 = .ok (.bipush 9, 2) := by decide +kernel
theorem dX4_copyFrom_82 : decode cX4_copyFrom 82 = .ok (.invokestatic 62, 3) := by decide +kernel
theorem dX4_copyFrom_85 : decode cX4_copyFrom 85 = .ok (.aload_n 1, 1) := by decide +kernel
theorem dX4_copyFrom_86 : decode cX4_copyFrom 86 = .ok (.getfield 41, 3) := by decide +kernel
theorem dX4_copyFrom_89 : decode cX4_copyFrom 89 = .ok (.iconst 0, 1) := by decide +kernel
theorem dX4_copyFrom_90 : decode cX4_copyFrom 90 = .ok (.aload_n 0, 1) := by decide +kernel
theorem dX4_copyFrom_91 : decode cX4_copyFrom 91 = .ok (.getfield 41, 3) := by decide +kernel
theorem dX4_copyFrom_94 : decode cX4_copyFrom 94 = .ok (.iconst 0, 1) := by decide +kernel
theorem dX4_copyFrom_95 : decode cX4_copyFrom 95 = .ok (.bipush 8, 2) := by decide +kernel
theorem dX4_copyFrom_97 : decode cX4_copyFrom 97 = .ok (.invokestatic 62, 3) := by decide +kernel
theorem dX4_copyFrom_100 : decode cX4_copyFrom 100 = .ok (.aload_n 1, 1) := by decide +kernel
theorem dX4_copyFrom_101 : decode cX4_copyFrom 101 = .ok (.getfield 44, 3) := by decide +kernel
theorem dX4_copyFrom_104 : decode cX4_copyFrom 104 = .ok (.iconst 0, 1) := by decide +kernel
theorem dX4_copyFrom_105 : decode cX4_copyFrom 105 = .ok (.aload_n 0, 1) := by decide +kernel
theorem dX4_copyFrom_106 : decode cX4_copyFrom 106 = .ok (.getfield 44, 3) := by decide +kernel
theorem dX4_copyFrom_109 : decode cX4_copyFrom 109 = .ok (.iconst 0, 1) := by decide +kernel
theorem dX4_copyFrom_110 : decode cX4_copyFrom 110 = .ok (.bipush 8, 2) := by decide +kernel
theorem dX4_copyFrom_112 : decode cX4_copyFrom 112 = .ok (.invokestatic 62, 3) := by decide +kernel
theorem dX4_copyFrom_115 : decode cX4_copyFrom 115 = .ok (.aload_n 1, 1) := by decide +kernel
theorem dX4_copyFrom_116 : decode cX4_copyFrom 116 = .ok (.getfield 47, 3) := by decide +kernel
theorem dX4_copyFrom_119 : decode cX4_copyFrom 119 = .ok (.iconst 0, 1) := by decide +kernel
theorem dX4_copyFrom_120 : decode cX4_copyFrom 120 = .ok (.aload_n 0, 1) := by decide +kernel
theorem dX4_copyFrom_121 : decode cX4_copyFrom 121 = .ok (.getfield 47, 3) := by decide +kernel
theorem dX4_copyFrom_124 : decode cX4_copyFrom 124 = .ok (.iconst 0, 1) := by decide +kernel
theorem dX4_copyFrom_125 : decode cX4_copyFrom 125 = .ok (.bipush 8, 2) := by decide +kernel
theorem dX4_copyFrom_127 : decode cX4_copyFrom 127 = .ok (.invokestatic 62, 3) := by decide +kernel
theorem dX4_copyFrom_130 : decode cX4_copyFrom 130 = .ok (.aload_n 1, 1) := by decide +kernel
theorem dX4_copyFrom_131 : decode cX4_copyFrom 131 = .ok (.getfield 50, 3) := by decide +kernel
theorem dX4_copyFrom_134 : decode cX4_copyFrom 134 = .ok (.iconst 0, 1) := by decide +kernel
theorem dX4_copyFrom_135 : decode cX4_copyFrom 135 = .ok (.aload_n 0, 1) := by decide +kernel
theorem dX4_copyFrom_136 : decode cX4_copyFrom 136 = .ok (.getfield 50, 3) := by decide +kernel
theorem dX4_copyFrom_139 : decode cX4_copyFrom 139 = .ok (.iconst 0, 1) := by decide +kernel
theorem dX4_copyFrom_140 : decode cX4_copyFrom 140 = .ok (.bipush 8, 2) := by decide +kernel
theorem dX4_copyFrom_142 : decode cX4_copyFrom 142 = .ok (.invokestatic 62, 3) := by decide +kernel
theorem dX4_copyFrom_145 : decode cX4_copyFrom 145 = .ok (.aload_n 1, 1) := by decide +kernel
theorem dX4_copyFrom_146 : decode cX4_copyFrom 146 = .ok (.getfield 56, 3) := by decide +kernel
theorem dX4_copyFrom_149 : decode cX4_copyFrom 149 = .ok (.iconst 0, 1) := by decide +kernel
theorem dX4_copyFrom_150 : decode cX4_copyFrom 150 = .ok (.aload_n 0, 1) := by decide +kernel
theorem dX4_copyFrom_151 : decode cX4_copyFrom 151 = .ok (.getfield 56, 3) := by decide +kernel
theorem dX4_copyFrom_154 : decode cX4_copyFrom 154 = .ok (.iconst 0, 1) := by decide +kernel
theorem dX4_copyFrom_155 : decode cX4_copyFrom 155 = .ok (.bipush 8, 2) := by decide +kernel
theorem dX4_copyFrom_157 : decode cX4_copyFrom 157 = .ok (.invokestatic 62, 3) := by decide +kernel
theorem dX4_copyFrom_160 : decode cX4_copyFrom 160 = .ok (.aload_n 1, 1) := by decide +kernel
theorem dX4_copyFrom_161 : decode cX4_copyFrom 161 = .ok (.getfield 59, 3) := by decide +kernel
theorem dX4_copyFrom_164 : decode cX4_copyFrom 164 = .ok (.iconst 0, 1) := by decide +kernel
theorem dX4_copyFrom_165 : decode cX4_copyFrom 165 = .ok (.aload_n 0, 1) := by decide +kernel
theorem dX4_copyFrom_166 : decode cX4_copyFrom 166 = .ok (.getfield 59, 3) := by decide +kernel
theorem dX4_copyFrom_169 : decode cX4_copyFrom 169 = .ok (.iconst 0, 1) := by decide +kernel
theorem dX4_copyFrom_170 : decode cX4_copyFrom 170 = .ok (.bipush 8, 2) := by decide +kernel
theorem dX4_copyFrom_172 : decode cX4_copyFrom 172 = .ok (.invokestatic 62, 3) := by decide +kernel
theorem dX4_copyFrom_175 : decode cX4_copyFrom 175 = .ok (.aload_n 0, 1) := by decide +kernel
theorem dX4_copyFrom_176 : decode cX4_copyFrom 176 = .ok (.aload_n 1, 1) := by decide +kernel
theorem dX4_copyFrom_177 : decode cX4_copyFrom 177 = .ok (.invokevirtual 68, 3) := by decide +kernel
theorem dX4_copyFrom_180 : decode cX4_copyFrom 180 = .ok (.return_, 1) := by decide +kernel
theorem dX4_copyChannels_0 : decode cX4_copyChannels 0 = .ok (.aload_n 1, 1) := by decide +kernel
theorem dX4_copyChannels_1 : decode cX4_copyChannels 1 = .ok (.getfield 53, 3) := by decide +kernel
theorem dX4_copyChannels_4 : decode cX4_copyChannels 4 = .ok (.iconst 0, 1) := by decide +kernel
theorem dX4_copyChannels_5 : decode cX4_copyChannels 5 = .ok (.aload_n 0, 1) := by decide +kernel
theorem dX4_copyChannels_6 : decode cX4_copyChannels 6 = .ok (.getfield 53, 3) := by decide +kernel
theorem dX4_copyChannels_9 : decode cX4_copyChannels 9 = .ok (.iconst 0, 1) := by decide +kernel
theorem dX4_copyChannels_10 : decode cX4_copyChannels 10 = .ok (.bipush 8, 2) := by decide +kernel
theorem dX4_copyChannels_12 : decode cX4_copyChannels 12 = .ok (.invokestatic 62, 3) := by decide +kernel
theorem dX4_copyChannels_15 : decode cX4_copyChannels 15 = .ok (.return_, 1) := by decide +kernel
theorem dX4_narrowTo_0 : decode cX4_narrowTo 0 = .ok (.aload_n 0, 1) := by decide +kernel
theorem dX4_narrowTo_1 : decode cX4_narrowTo 1 = .ok (.iload_n 1, 1) := by decide +kernel
theorem dX4_narrowTo_2 : decode cX4_narrowTo 2 = .ok (.putfield 15, 3) := by decide +kernel
theorem dX4_narrowTo_5 : decode cX4_narrowTo 5 = .ok (.iload_n 1, 1) := by decide +kernel
theorem dX4_narrowTo_6 : decode cX4_narrowTo 6 = .ok (.iconst 1, 1) := by decide +kernel
theorem dX4_narrowTo_7 : decode cX4_narrowTo 7 = .ok (.iadd, 1) := by decide +kernel
theorem dX4_narrowTo_8 : decode cX4_narrowTo 8 = .ok (.istore_n 2, 1) := by decide +kernel
theorem dX4_narrowTo_9 : decode cX4_narrowTo 9 = .ok (.iload_n 2, 1) := by decide +kernel
theorem dX4_narrowTo_10 : decode cX4_narrowTo 10 = .ok (.bipush 60, 2) := by decide +kernel
theorem dX4_narrowTo_12 : decode cX4_narrowTo 12 = .ok (.if_icmp .gt 21, 3) := by decide +kernel
theorem dX4_narrowTo_15 : decode cX4_narrowTo 15 = .ok (.aload_n 0, 1) := by decide +kernel
theorem dX4_narrowTo_16 : decode cX4_narrowTo 16 = .ok (.dup, 1) := by decide +kernel
theorem dX4_narrowTo_17 : decode cX4_narrowTo 17 = .ok (.getfield 30, 3) := by decide +kernel
theorem dX4_narrowTo_20 : decode cX4_narrowTo 20 = .ok (.lconst 1, 1) := by decide +kernel
theorem dX4_narrowTo_21 : decode cX4_narrowTo 21 = .ok (.iload_n 2, 1) := by decide +kernel
theorem dX4_narrowTo_22 : decode cX4_narrowTo 22 = .ok (.lshl, 1) := by decide +kernel
theorem dX4_narrowTo_23 : decode cX4_narrowTo 23 = .ok (.lor, 1) := by decide +kernel
theorem dX4_narrowTo_24 : decode cX4_narrowTo 24 = .ok (.putfield 30, 3) := by decide +kernel
theorem dX4_narrowTo_27 : decode cX4_narrowTo 27 = .ok (.iinc 2 1, 3) := by decide +kernel
theorem dX4_narrowTo_30 : decode cX4_narrowTo 30 = .ok (.goto (-21), 3) := by decide +kernel
theorem dX4_narrowTo_33 : decode cX4_narrowTo 33 = .ok (.iconst 0, 1) := by decide +kernel
theorem dX4_narrowTo_34 : decode cX4_narrowTo 34 = .ok (.istore_n 2, 1) := by decide +kernel
theorem dX4_narrowTo_35 : decode cX4_narrowTo 35 = .ok (.iload_n 2, 1) := by decide +kernel
theorem dX4_narrowTo_36 : decode cX4_narrowTo 36 = .ok (.aload_n 0, 1) := by decide +kernel
theorem dX4_narrowTo_37 : decode cX4_narrowTo 37 = .ok (.getfield 9, 3) := by decide +kernel
theorem dX4_narrowTo_40 : decode cX4_narrowTo 40 = .ok (.if_icmp .ge 25, 3) := by decide +kernel
theorem dX4_narrowTo_43 : decode cX4_narrowTo 43 = .ok (.aload_n 0, 1) := by decide +kernel
theorem dX4_narrowTo_44 : decode cX4_narrowTo 44 = .ok (.getfield 50, 3) := by decide +kernel
theorem dX4_narrowTo_47 : decode cX4_narrowTo 47 = .ok (.iload_n 2, 1) := by decide +kernel
theorem dX4_narrowTo_48 : decode cX4_narrowTo 48 = .ok (.aload_n 0, 1) := by decide +kernel
theorem dX4_narrowTo_49 : decode cX4_narrowTo 49 = .ok (.getfield 50, 3) := by decide +kernel
theorem dX4_narrowTo_52 : decode cX4_narrowTo 52 = .ok (.iload_n 2, 1) := by decide +kernel
theorem dX4_narrowTo_53 : decode cX4_narrowTo 53 = .ok (.iaload, 1) := by decide +kernel
theorem dX4_narrowTo_54 : decode cX4_narrowTo 54 = .ok (.iload_n 1, 1) := by decide +kernel
theorem dX4_narrowTo_55 : decode cX4_narrowTo 55 = .ok (.invokestatic 72, 3) := by decide +kernel
theorem dX4_narrowTo_58 : decode cX4_narrowTo 58 = .ok (.iastore, 1) := by decide +kernel
theorem dX4_narrowTo_59 : decode cX4_narrowTo 59 = .ok (.iinc 2 1, 3) := by decide +kernel
theorem dX4_narrowTo_62 : decode cX4_narrowTo 62 = .ok (.goto (-27), 3) := by decide +kernel
theorem dX4_narrowTo_65 : decode cX4_narrowTo 65 = .ok (.return_, 1) := by decide +kernel
theorem dX4_greatestLow_0 : decode cX4_greatestLow 0 = .ok (.iconst 0, 1) := by decide +kernel
theorem dX4_greatestLow_1 : decode cX4_greatestLow 1 = .ok (.istore_n 1, 1) := by decide +kernel
theorem dX4_greatestLow_2 : decode cX4_greatestLow 2 = .ok (.iconst 0, 1) := by decide +kernel
theorem dX4_greatestLow_3 : decode cX4_greatestLow 3 = .ok (.istore_n 2, 1) := by decide +kernel
theorem dX4_greatestLow_4 : decode cX4_greatestLow 4 = .ok (.iload_n 2, 1) := by decide +kernel
theorem dX4_greatestLow_5 : decode cX4_greatestLow 5 = .ok (.aload_n 0, 1) := by decide +kernel
theorem dX4_greatestLow_6 : decode cX4_greatestLow 6 = .ok (.getfield 9, 3) := by decide +kernel
theorem dX4_greatestLow_9 : decode cX4_greatestLow 9 = .ok (.if_icmp .ge 20, 3) := by decide +kernel
theorem dX4_greatestLow_12 : decode cX4_greatestLow 12 = .ok (.iload_n 1, 1) := by decide +kernel
theorem dX4_greatestLow_13 : decode cX4_greatestLow 13 = .ok (.aload_n 0, 1) := by decide +kernel
theorem dX4_greatestLow_14 : decode cX4_greatestLow 14 = .ok (.getfield 47, 3) := by decide +kernel
theorem dX4_greatestLow_17 : decode cX4_greatestLow 17 = .ok (.iload_n 2, 1) := by decide +kernel
theorem dX4_greatestLow_18 : decode cX4_greatestLow 18 = .ok (.iaload, 1) := by decide +kernel
theorem dX4_greatestLow_19 : decode cX4_greatestLow 19 = .ok (.invokestatic 78, 3) := by decide +kernel
theorem dX4_greatestLow_22 : decode cX4_greatestLow 22 = .ok (.istore_n 1, 1) := by decide +kernel
theorem dX4_greatestLow_23 : decode cX4_greatestLow 23 = .ok (.iinc 2 1, 3) := by decide +kernel
theorem dX4_greatestLow_26 : decode cX4_greatestLow 26 = .ok (.goto (-22), 3) := by decide +kernel
theorem dX4_greatestLow_29 : decode cX4_greatestLow 29 = .ok (.iload_n 1, 1) := by decide +kernel
theorem dX4_greatestLow_30 : decode cX4_greatestLow 30 = .ok (.ireturn, 1) := by decide +kernel
theorem dX4_beginRow_0 : decode cX4_beginRow 0 = .ok (.aload_n 0, 1) := by decide +kernel
theorem dX4_beginRow_1 : decode cX4_beginRow 1 = .ok (.iconst 0, 1) := by decide +kernel
theorem dX4_beginRow_2 : decode cX4_beginRow 2 = .ok (.putfield 9, 3) := by decide +kernel
theorem dX4_beginRow_5 : decode cX4_beginRow 5 = .ok (.aload_n 0, 1) := by decide +kernel
theorem dX4_beginRow_6 : decode cX4_beginRow 6 = .ok (.bipush 60, 2) := by decide +kernel
theorem dX4_beginRow_8 : decode cX4_beginRow 8 = .ok (.putfield 15, 3) := by decide +kernel
theorem dX4_beginRow_11 : decode cX4_beginRow 11 = .ok (.aload_n 0, 1) := by decide +kernel
theorem dX4_beginRow_12 : decode cX4_beginRow 12 = .ok (.iload_n 2, 1) := by decide +kernel
theorem dX4_beginRow_13 : decode cX4_beginRow 13 = .ok (.putfield 18, 3) := by decide +kernel
theorem dX4_beginRow_16 : decode cX4_beginRow 16 = .ok (.aload_n 0, 1) := by decide +kernel
theorem dX4_beginRow_17 : decode cX4_beginRow 17 = .ok (.iload_n 3, 1) := by decide +kernel
theorem dX4_beginRow_18 : decode cX4_beginRow 18 = .ok (.putfield 21, 3) := by decide +kernel
theorem dX4_beginRow_21 : decode cX4_beginRow 21 = .ok (.aload_n 0, 1) := by decide +kernel
theorem dX4_beginRow_22 : decode cX4_beginRow 22 = .ok (.iload_n 1, 1) := by decide +kernel
theorem dX4_beginRow_23 : decode cX4_beginRow 23 = .ok (.putfield 24, 3) := by decide +kernel
theorem dX4_beginRow_26 : decode cX4_beginRow 26 = .ok (.aload_n 0, 1) := by decide +kernel
theorem dX4_beginRow_27 : decode cX4_beginRow 27 = .ok (.lconst 0, 1) := by decide +kernel
theorem dX4_beginRow_28 : decode cX4_beginRow 28 = .ok (.putfield 30, 3) := by decide +kernel
theorem dX4_beginRow_31 : decode cX4_beginRow 31 = .ok (.iconst 0, 1) := by decide +kernel
theorem dX4_beginRow_32 : decode cX4_beginRow 32 = .ok (.istore 4, 2) := by decide +kernel
theorem dX4_beginRow_34 : decode cX4_beginRow 34 = .ok (.iload 4, 2) := by decide +kernel
theorem dX4_beginRow_36 : decode cX4_beginRow 36 = .ok (.iconst 3, 1) := by decide +kernel
theorem dX4_beginRow_37 : decode cX4_beginRow 37 = .ok (.if_icmp .ge 17, 3) := by decide +kernel
theorem dX4_beginRow_40 : decode cX4_beginRow 40 = .ok (.aload_n 0, 1) := by decide +kernel
theorem dX4_beginRow_41 : decode cX4_beginRow 41 = .ok (.getfield 34, 3) := by decide +kernel
theorem dX4_beginRow_44 : decode cX4_beginRow 44 = .ok (.iload 4, 2) := by decide +kernel
theorem dX4_beginRow_46 : decode cX4_beginRow 46 = .ok (.iconst 0, 1) := by decide +kernel
theorem dX4_beginRow_47 : decode cX4_beginRow 47 = .ok (.iastore, 1) := by decide +kernel
theorem dX4_beginRow_48 : decode cX4_beginRow 48 = .ok (.iinc 4 1, 3) := by decide +kernel
theorem dX4_beginRow_51 : decode cX4_beginRow 51 = .ok (.goto (-17), 3) := by decide +kernel
theorem dX4_beginRow_54 : decode cX4_beginRow 54 = .ok (.iconst 0, 1) := by decide +kernel
theorem dX4_beginRow_55 : decode cX4_beginRow 55 = .ok (.istore 4, 2) := by decide +kernel
theorem dX4_beginRow_57 : decode cX4_beginRow 57 = .ok (.iload 4, 2) := by decide +kernel
theorem dX4_beginRow_59 : decode cX4_beginRow 59 = .ok (.bipush 8, 2) := by decide +kernel
theorem dX4_beginRow_61 : decode cX4_beginRow 61 = .ok (.if_icmp .ge 60, 3) := by decide +kernel
theorem dX4_beginRow_64 : decode cX4_beginRow 64 = .ok (.aload_n 0, 1) := by decide +kernel
theorem dX4_beginRow_65 : decode cX4_beginRow 65 = .ok (.getfield 44, 3) := by decide +kernel
theorem dX4_beginRow_68 : decode cX4_beginRow 68 = .ok (.iload 4, 2) := by decide +kernel
theorem dX4_beginRow_70 : decode cX4_beginRow 70 = .ok (.iconst 0, 1) := by decide +kernel
theorem dX4_beginRow_71 : decode cX4_beginRow 71 = .ok (.iastore, 1) := by decide +kernel
theorem dX4_beginRow_72 : decode cX4_beginRow 72 = .ok (.aload_n 0, 1) := by decide +kernel
theorem dX4_beginRow_73 : decode cX4_beginRow 73 = .ok (.getfield 47, 3) := by decide +kernel
theorem dX4_beginRow_76 : decode cX4_beginRow 76 = .ok (.iload 4, 2) := by decide +kernel
theorem dX4_beginRow_78 : decode cX4_beginRow 78 = .ok (.iconst 1, 1) := by decide +kernel
theorem dX4_beginRow_79 : decode cX4_beginRow 79 = .ok (.iastore, 1) := by decide +kernel
theorem dX4_beginRow_80 : decode cX4_beginRow 80 = .ok (.aload_n 0, 1) := by decide +kernel
theorem dX4_beginRow_81 : decode cX4_beginRow 81 = .ok (.getfield 50, 3) := by decide +kernel
theorem dX4_beginRow_84 : decode cX4_beginRow 84 = .ok (.iload 4, 2) := by decide +kernel
theorem dX4_beginRow_86 : decode cX4_beginRow 86 = .ok (.bipush 60, 2) := by decide +kernel
theorem dX4_beginRow_88 : decode cX4_beginRow 88 = .ok (.iastore, 1) := by decide +kernel
theorem dX4_beginRow_89 : decode cX4_beginRow 89 = .ok (.aload_n 0, 1) := by decide +kernel
theorem dX4_beginRow_90 : decode cX4_beginRow 90 = .ok (.getfield 53, 3) := by decide +kernel
theorem dX4_beginRow_93 : decode cX4_beginRow 93 = .ok (.iload 4, 2) := by decide +kernel
theorem dX4_beginRow_95 : decode cX4_beginRow 95 = .ok (.iconst 0, 1) := by decide +kernel
theorem dX4_beginRow_96 : decode cX4_beginRow 96 = .ok (.iastore, 1) := by decide +kernel
theorem dX4_beginRow_97 : decode cX4_beginRow 97 = .ok (.aload_n 0, 1) := by decide +kernel
theorem dX4_beginRow_98 : decode cX4_beginRow 98 = .ok (.getfield 56, 3) := by decide +kernel
theorem dX4_beginRow_101 : decode cX4_beginRow 101 = .ok (.iload 4, 2) := by decide +kernel
theorem dX4_beginRow_103 : decode cX4_beginRow 103 = .ok (.iconst 0, 1) := by decide +kernel
theorem dX4_beginRow_104 : decode cX4_beginRow 104 = .ok (.iastore, 1) := by decide +kernel
theorem dX4_beginRow_105 : decode cX4_beginRow 105 = .ok (.aload_n 0, 1) := by decide +kernel
theorem dX4_beginRow_106 : decode cX4_beginRow 106 = .ok (.getfield 59, 3) := by decide +kernel
theorem dX4_beginRow_109 : decode cX4_beginRow 109 = .ok (.iload 4, 2) := by decide +kernel
theorem dX4_beginRow_111 : decode cX4_beginRow 111 = .ok (.sipush 255, 3) := by decide +kernel
theorem dX4_beginRow_114 : decode cX4_beginRow 114 = .ok (.iastore, 1) := by decide +kernel
theorem dX4_beginRow_115 : decode cX4_beginRow 115 = .ok (.iinc 4 1, 3) := by decide +kernel
theorem dX4_beginRow_118 : decode cX4_beginRow 118 = .ok (.goto (-61), 3) := by decide +kernel
theorem dX4_beginRow_121 : decode cX4_beginRow 121 = .ok (.return_, 1) := by decide +kernel
theorem dX4_isUser_0 : decode cX4_isUser 0 = .ok (.iload_n 1, 1) := by decide +kernel
theorem dX4_isUser_1 : decode cX4_isUser 1 = .ok (.ifCond .lt 15, 3) := by decide +kernel
theorem dX4_isUser_4 : decode cX4_isUser 4 = .ok (.iload_n 1, 1) := by decide +kernel
theorem dX4_isUser_5 : decode cX4_isUser 5 = .ok (.aload_n 0, 1) := by decide +kernel
theorem dX4_isUser_6 : decode cX4_isUser 6 = .ok (.getfield 9, 3) := by decide +kernel
theorem dX4_isUser_9 : decode cX4_isUser 9 = .ok (.if_icmp .ge 7, 3) := by decide +kernel
theorem dX4_isUser_12 : decode cX4_isUser 12 = .ok (.iconst 1, 1) := by decide +kernel
theorem dX4_isUser_13 : decode cX4_isUser 13 = .ok (.goto 4, 3) := by decide +kernel
theorem dX4_isUser_16 : decode cX4_isUser 16 = .ok (.iconst 0, 1) := by decide +kernel
theorem dX4_isUser_17 : decode cX4_isUser 17 = .ok (.ireturn, 1) := by decide +kernel
theorem dX4_isChannel_0 : decode cX4_isChannel 0 = .ok (.iload_n 1, 1) := by decide +kernel
theorem dX4_isChannel_1 : decode cX4_isChannel 1 = .ok (.iconst 1, 1) := by decide +kernel
theorem dX4_isChannel_2 : decode cX4_isChannel 2 = .ok (.if_icmp .lt 15, 3) := by decide +kernel
theorem dX4_isChannel_5 : decode cX4_isChannel 5 = .ok (.iload_n 1, 1) := by decide +kernel
theorem dX4_isChannel_6 : decode cX4_isChannel 6 = .ok (.aload_n 0, 1) := by decide +kernel
theorem dX4_isChannel_7 : decode cX4_isChannel 7 = .ok (.getfield 15, 3) := by decide +kernel
theorem dX4_isChannel_10 : decode cX4_isChannel 10 = .ok (.if_icmp .gt 7, 3) := by decide +kernel
theorem dX4_isChannel_13 : decode cX4_isChannel 13 = .ok (.iconst 1, 1) := by decide +kernel
theorem dX4_isChannel_14 : decode cX4_isChannel 14 = .ok (.goto 4, 3) := by decide +kernel
theorem dX4_isChannel_17 : decode cX4_isChannel 17 = .ok (.iconst 0, 1) := by decide +kernel
theorem dX4_isChannel_18 : decode cX4_isChannel 18 = .ok (.ireturn, 1) := by decide +kernel
theorem dX4_isShut_0 : decode cX4_isShut 0 = .ok (.aload_n 0, 1) := by decide +kernel
theorem dX4_isShut_1 : decode cX4_isShut 1 = .ok (.getfield 30, 3) := by decide +kernel
theorem dX4_isShut_4 : decode cX4_isShut 4 = .ok (.iload_n 1, 1) := by decide +kernel
theorem dX4_isShut_5 : decode cX4_isShut 5 = .ok (.lshr, 1) := by decide +kernel
theorem dX4_isShut_6 : decode cX4_isShut 6 = .ok (.lconst 1, 1) := by decide +kernel
theorem dX4_isShut_7 : decode cX4_isShut 7 = .ok (.land, 1) := by decide +kernel
theorem dX4_isShut_8 : decode cX4_isShut 8 = .ok (.lconst 0, 1) := by decide +kernel
theorem dX4_isShut_9 : decode cX4_isShut 9 = .ok (.lcmp, 1) := by decide +kernel
theorem dX4_isShut_10 : decode cX4_isShut 10 = .ok (.ifCond .eq 7, 3) := by decide +kernel
theorem dX4_isShut_13 : decode cX4_isShut 13 = .ok (.iconst 1, 1) := by decide +kernel
theorem dX4_isShut_14 : decode cX4_isShut 14 = .ok (.goto 4, 3) := by decide +kernel
theorem dX4_isShut_17 : decode cX4_isShut 17 = .ok (.iconst 0, 1) := by decide +kernel
theorem dX4_isShut_18 : decode cX4_isShut 18 = .ok (.ireturn, 1) := by decide +kernel
theorem dX4_isRight_0 : decode cX4_isRight 0 = .ok (.aload_n 0, 1) := by decide +kernel
theorem dX4_isRight_1 : decode cX4_isRight 1 = .ok (.getfield 53, 3) := by decide +kernel
theorem dX4_isRight_4 : decode cX4_isRight 4 = .ok (.iload_n 1, 1) := by decide +kernel
theorem dX4_isRight_5 : decode cX4_isRight 5 = .ok (.iaload, 1) := by decide +kernel
theorem dX4_isRight_6 : decode cX4_isRight 6 = .ok (.istore_n 2, 1) := by decide +kernel
theorem dX4_isRight_7 : decode cX4_isRight 7 = .ok (.iload_n 2, 1) := by decide +kernel
theorem dX4_isRight_8 : decode cX4_isRight 8 = .ok (.aload_n 0, 1) := by decide +kernel
theorem dX4_isRight_9 : decode cX4_isRight 9 = .ok (.getfield 47, 3) := by decide +kernel
theorem dX4_isRight_12 : decode cX4_isRight 12 = .ok (.iload_n 1, 1) := by decide +kernel
theorem dX4_isRight_13 : decode cX4_isRight 13 = .ok (.iaload, 1) := by decide +kernel
theorem dX4_isRight_14 : decode cX4_isRight 14 = .ok (.if_icmp .lt 25, 3) := by decide +kernel
theorem dX4_isRight_17 : decode cX4_isRight 17 = .ok (.iload_n 2, 1) := by decide +kernel
theorem dX4_isRight_18 : decode cX4_isRight 18 = .ok (.aload_n 0, 1) := by decide +kernel
theorem dX4_isRight_19 : decode cX4_isRight 19 = .ok (.getfield 50, 3) := by decide +kernel
theorem dX4_isRight_22 : decode cX4_isRight 22 = .ok (.iload_n 1, 1) := by decide +kernel
theorem dX4_isRight_23 : decode cX4_isRight 23 = .ok (.iaload, 1) := by decide +kernel
theorem dX4_isRight_24 : decode cX4_isRight 24 = .ok (.if_icmp .gt 15, 3) := by decide +kernel
theorem dX4_isRight_27 : decode cX4_isRight 27 = .ok (.aload_n 0, 1) := by decide +kernel
theorem dX4_isRight_28 : decode cX4_isRight 28 = .ok (.iload_n 2, 1) := by decide +kernel
theorem dX4_isRight_29 : decode cX4_isRight 29 = .ok (.invokevirtual 81, 3) := by decide +kernel
theorem dX4_isRight_32 : decode cX4_isRight 32 = .ok (.ifCond .ne 7, 3) := by decide +kernel
theorem dX4_isRight_35 : decode cX4_isRight 35 = .ok (.iconst 1, 1) := by decide +kernel
theorem dX4_isRight_36 : decode cX4_isRight 36 = .ok (.goto 4, 3) := by decide +kernel
theorem dX4_isRight_39 : decode cX4_isRight 39 = .ok (.iconst 0, 1) := by decide +kernel
theorem dX4_isRight_40 : decode cX4_isRight 40 = .ok (.ireturn, 1) := by decide +kernel
theorem dX4_allRight_0 : decode cX4_allRight 0 = .ok (.iconst 0, 1) := by decide +kernel
theorem dX4_allRight_1 : decode cX4_allRight 1 = .ok (.istore_n 1, 1) := by decide +kernel
theorem dX4_allRight_2 : decode cX4_allRight 2 = .ok (.iload_n 1, 1) := by decide +kernel
theorem dX4_allRight_3 : decode cX4_allRight 3 = .ok (.aload_n 0, 1) := by decide +kernel
theorem dX4_allRight_4 : decode cX4_allRight 4 = .ok (.getfield 9, 3) := by decide +kernel
theorem dX4_allRight_7 : decode cX4_allRight 7 = .ok (.if_icmp .ge 28, 3) := by decide +kernel
theorem dX4_allRight_10 : decode cX4_allRight 10 = .ok (.aload_n 0, 1) := by decide +kernel
theorem dX4_allRight_11 : decode cX4_allRight 11 = .ok (.getfield 53, 3) := by decide +kernel
theorem dX4_allRight_14 : decode cX4_allRight 14 = .ok (.iload_n 1, 1) := by decide +kernel
theorem dX4_allRight_15 : decode cX4_allRight 15 = .ok (.iaload, 1) := by decide +kernel
theorem dX4_allRight_16 : decode cX4_allRight 16 = .ok (.ifCond .le 13, 3) := by decide +kernel
theorem dX4_allRight_19 : decode cX4_allRight 19 = .ok (.aload_n 0, 1) := by decide +kernel
theorem dX4_allRight_20 : decode cX4_allRight 20 = .ok (.iload_n 1, 1) := by decide +kernel
theorem dX4_allRight_21 : decode cX4_allRight 21 = .ok (.invokevirtual 85, 3) := by decide +kernel
theorem dX4_allRight_24 : decode cX4_allRight 24 = .ok (.ifCond .ne 5, 3) := by decide +kernel
theorem dX4_allRight_27 : decode cX4_allRight 27 = .ok (.iconst 0, 1) := by decide +kernel
theorem dX4_allRight_28 : decode cX4_allRight 28 = .ok (.ireturn, 1) := by decide +kernel
theorem dX4_allRight_29 : decode cX4_allRight 29 = .ok (.iinc 1 1, 3) := by decide +kernel
theorem dX4_allRight_32 : decode cX4_allRight 32 = .ok (.goto (-30), 3) := by decide +kernel
theorem dX4_allRight_35 : decode cX4_allRight 35 = .ok (.iconst 1, 1) := by decide +kernel
theorem dX4_allRight_36 : decode cX4_allRight 36 = .ok (.ireturn, 1) := by decide +kernel
theorem dX4_userOfName_0 : decode cX4_userOfName 0 = .ok (.iconst 0, 1) := by decide +kernel
theorem dX4_userOfName_1 : decode cX4_userOfName 1 = .ok (.istore_n 2, 1) := by decide +kernel
theorem dX4_userOfName_2 : decode cX4_userOfName 2 = .ok (.iload_n 2, 1) := by decide +kernel
theorem dX4_userOfName_3 : decode cX4_userOfName 3 = .ok (.aload_n 0, 1) := by decide +kernel
theorem dX4_userOfName_4 : decode cX4_userOfName 4 = .ok (.getfield 9, 3) := by decide +kernel
theorem dX4_userOfName_7 : decode cX4_userOfName 7 = .ok (.if_icmp .ge 21, 3) := by decide +kernel
theorem dX4_userOfName_10 : decode cX4_userOfName 10 = .ok (.aload_n 0, 1) := by decide +kernel
theorem dX4_userOfName_11 : decode cX4_userOfName 11 = .ok (.getfield 41, 3) := by decide +kernel
theorem dX4_userOfName_14 : decode cX4_userOfName 14 = .ok (.iload_n 2, 1) := by decide +kernel
theorem dX4_userOfName_15 : decode cX4_userOfName 15 = .ok (.iaload, 1) := by decide +kernel
theorem dX4_userOfName_16 : decode cX4_userOfName 16 = .ok (.iload_n 1, 1) := by decide +kernel
theorem dX4_userOfName_17 : decode cX4_userOfName 17 = .ok (.if_icmp .ne 5, 3) := by decide +kernel
theorem dX4_userOfName_20 : decode cX4_userOfName 20 = .ok (.iload_n 2, 1) := by decide +kernel
theorem dX4_userOfName_21 : decode cX4_userOfName 21 = .ok (.ireturn, 1) := by decide +kernel
theorem dX4_userOfName_22 : decode cX4_userOfName 22 = .ok (.iinc 2 1, 3) := by decide +kernel
theorem dX4_userOfName_25 : decode cX4_userOfName 25 = .ok (.goto (-23), 3) := by decide +kernel
theorem dX4_userOfName_28 : decode cX4_userOfName 28 = .ok (.iconst (-1), 1) := by decide +kernel
theorem dX4_userOfName_29 : decode cX4_userOfName 29 = .ok (.ireturn, 1) := by decide +kernel
theorem dX4_allUsers_0 : decode cX4_allUsers 0 = .ok (.iconst 1, 1) := by decide +kernel
theorem dX4_allUsers_1 : decode cX4_allUsers 1 = .ok (.aload_n 0, 1) := by decide +kernel
theorem dX4_allUsers_2 : decode cX4_allUsers 2 = .ok (.getfield 9, 3) := by decide +kernel
theorem dX4_allUsers_5 : decode cX4_allUsers 5 = .ok (.ishl, 1) := by decide +kernel
theorem dX4_allUsers_6 : decode cX4_allUsers 6 = .ok (.iconst 1, 1) := by decide +kernel
theorem dX4_allUsers_7 : decode cX4_allUsers 7 = .ok (.isub, 1) := by decide +kernel
theorem dX4_allUsers_8 : decode cX4_allUsers 8 = .ok (.ireturn, 1) := by decide +kernel
theorem dX4_tunedUsers_0 : decode cX4_tunedUsers 0 = .ok (.iconst 0, 1) := by decide +kernel
theorem dX4_tunedUsers_1 : decode cX4_tunedUsers 1 = .ok (.istore_n 1, 1) := by decide +kernel
theorem dX4_tunedUsers_2 : decode cX4_tunedUsers 2 = .ok (.iconst 0, 1) := by decide +kernel
theorem dX4_tunedUsers_3 : decode cX4_tunedUsers 3 = .ok (.istore_n 2, 1) := by decide +kernel
theorem dX4_tunedUsers_4 : decode cX4_tunedUsers 4 = .ok (.iload_n 2, 1) := by decide +kernel
theorem dX4_tunedUsers_5 : decode cX4_tunedUsers 5 = .ok (.aload_n 0, 1) := by decide +kernel
theorem dX4_tunedUsers_6 : decode cX4_tunedUsers 6 = .ok (.getfield 9, 3) := by decide +kernel
theorem dX4_tunedUsers_9 : decode cX4_tunedUsers 9 = .ok (.if_icmp .ge 24, 3) := by decide +kernel
theorem dX4_tunedUsers_12 : decode cX4_tunedUsers 12 = .ok (.aload_n 0, 1) := by decide +kernel
theorem dX4_tunedUsers_13 : decode cX4_tunedUsers 13 = .ok (.getfield 53, 3) := by decide +kernel
theorem dX4_tunedUsers_16 : decode cX4_tunedUsers 16 = .ok (.iload_n 2, 1) := by decide +kernel
theorem dX4_tunedUsers_17 : decode cX4_tunedUsers 17 = .ok (.iaload, 1) := by decide +kernel
theorem dX4_tunedUsers_18 : decode cX4_tunedUsers 18 = .ok (.ifCond .le 9, 3) := by decide +kernel
theorem dX4_tunedUsers_21 : decode cX4_tunedUsers 21 = .ok (.iload_n 1, 1) := by decide +kernel
theorem dX4_tunedUsers_22 : decode cX4_tunedUsers 22 = .ok (.iconst 1, 1) := by decide +kernel
theorem dX4_tunedUsers_23 : decode cX4_tunedUsers 23 = .ok (.iload_n 2, 1) := by decide +kernel
theorem dX4_tunedUsers_24 : decode cX4_tunedUsers 24 = .ok (.ishl, 1) := by decide +kernel
theorem dX4_tunedUsers_25 : decode cX4_tunedUsers 25 = .ok (.ior, 1) := by decide +kernel
theorem dX4_tunedUsers_26 : decode cX4_tunedUsers 26 = .ok (.istore_n 1, 1) := by decide +kernel
theorem dX4_tunedUsers_27 : decode cX4_tunedUsers 27 = .ok (.iinc 2 1, 3) := by decide +kernel
theorem dX4_tunedUsers_30 : decode cX4_tunedUsers 30 = .ok (.goto (-26), 3) := by decide +kernel
theorem dX4_tunedUsers_33 : decode cX4_tunedUsers 33 = .ok (.iload_n 1, 1) := by decide +kernel
theorem dX4_tunedUsers_34 : decode cX4_tunedUsers 34 = .ok (.ireturn, 1) := by decide +kernel
theorem dX4_untunedUsers_0 : decode cX4_untunedUsers 0 = .ok (.aload_n 0, 1) := by decide +kernel
theorem dX4_untunedUsers_1 : decode cX4_untunedUsers 1 = .ok (.invokevirtual 88, 3) := by decide +kernel
theorem dX4_untunedUsers_4 : decode cX4_untunedUsers 4 = .ok (.aload_n 0, 1) := by decide +kernel
theorem dX4_untunedUsers_5 : decode cX4_untunedUsers 5 = .ok (.invokevirtual 92, 3) := by decide +kernel
theorem dX4_untunedUsers_8 : decode cX4_untunedUsers 8 = .ok (.iconst (-1), 1) := by decide +kernel
theorem dX4_untunedUsers_9 : decode cX4_untunedUsers 9 = .ok (.ixor, 1) := by decide +kernel
theorem dX4_untunedUsers_10 : decode cX4_untunedUsers 10 = .ok (.iand, 1) := by decide +kernel
theorem dX4_untunedUsers_11 : decode cX4_untunedUsers 11 = .ok (.ireturn, 1) := by decide +kernel
theorem dX4_isTunedAt_0 : decode cX4_isTunedAt 0 = .ok (.aload_n 0, 1) := by decide +kernel
theorem dX4_isTunedAt_1 : decode cX4_isTunedAt 1 = .ok (.getfield 53, 3) := by decide +kernel
theorem dX4_isTunedAt_4 : decode cX4_isTunedAt 4 = .ok (.iload_n 1, 1) := by decide +kernel
theorem dX4_isTunedAt_5 : decode cX4_isTunedAt 5 = .ok (.iaload, 1) := by decide +kernel
theorem dX4_isTunedAt_6 : decode cX4_isTunedAt 6 = .ok (.ifCond .le 17, 3) := by decide +kernel
theorem dX4_isTunedAt_9 : decode cX4_isTunedAt 9 = .ok (.aload_n 0, 1) := by decide +kernel
theorem dX4_isTunedAt_10 : decode cX4_isTunedAt 10 = .ok (.getfield 44, 3) := by decide +kernel
theorem dX4_isTunedAt_13 : decode cX4_isTunedAt 13 = .ok (.iload_n 1, 1) := by decide +kernel
theorem dX4_isTunedAt_14 : decode cX4_isTunedAt 14 = .ok (.iaload, 1) := by decide +kernel
theorem dX4_isTunedAt_15 : decode cX4_isTunedAt 15 = .ok (.iload_n 2, 1) := by decide +kernel
theorem dX4_isTunedAt_16 : decode cX4_isTunedAt 16 = .ok (.if_icmp .ne 7, 3) := by decide +kernel
theorem dX4_isTunedAt_19 : decode cX4_isTunedAt 19 = .ok (.iconst 1, 1) := by decide +kernel
theorem dX4_isTunedAt_20 : decode cX4_isTunedAt 20 = .ok (.goto 4, 3) := by decide +kernel
theorem dX4_isTunedAt_23 : decode cX4_isTunedAt 23 = .ok (.iconst 0, 1) := by decide +kernel
theorem dX4_isTunedAt_24 : decode cX4_isTunedAt 24 = .ok (.ireturn, 1) := by decide +kernel
theorem dX4_crowd_0 : decode cX4_crowd 0 = .ok (.iload_n 1, 1) := by decide +kernel
theorem dX4_crowd_1 : decode cX4_crowd 1 = .ok (.iload_n 2, 1) := by decide +kernel
theorem dX4_crowd_2 : decode cX4_crowd 2 = .ok (.if_icmp .eq 79, 3) := by decide +kernel
theorem dX4_crowd_5 : decode cX4_crowd 5 = .ok (.aload_n 0, 1) := by decide +kernel
theorem dX4_crowd_6 : decode cX4_crowd 6 = .ok (.getfield 44, 3) := by decide +kernel
theorem dX4_crowd_9 : decode cX4_crowd 9 = .ok (.iload_n 1, 1) := by decide +kernel
theorem dX4_crowd_10 : decode cX4_crowd 10 = .ok (.iaload, 1) := by decide +kernel
theorem dX4_crowd_11 : decode cX4_crowd 11 = .ok (.aload_n 0, 1) := by decide +kernel
theorem dX4_crowd_12 : decode cX4_crowd 12 = .ok (.getfield 44, 3) := by decide +kernel
theorem dX4_crowd_15 : decode cX4_crowd 15 = .ok (.iload_n 2, 1) := by decide +kernel
theorem dX4_crowd_16 : decode cX4_crowd 16 = .ok (.iaload, 1) := by decide +kernel
theorem dX4_crowd_17 : decode cX4_crowd 17 = .ok (.if_icmp .ne 64, 3) := by decide +kernel
theorem dX4_crowd_20 : decode cX4_crowd 20 = .ok (.aload_n 0, 1) := by decide +kernel
theorem dX4_crowd_21 : decode cX4_crowd 21 = .ok (.getfield 53, 3) := by decide +kernel
theorem dX4_crowd_24 : decode cX4_crowd 24 = .ok (.iload_n 1, 1) := by decide +kernel
theorem dX4_crowd_25 : decode cX4_crowd 25 = .ok (.iaload, 1) := by decide +kernel
theorem dX4_crowd_26 : decode cX4_crowd 26 = .ok (.ifCond .le 55, 3) := by decide +kernel
theorem dX4_crowd_29 : decode cX4_crowd 29 = .ok (.aload_n 0, 1) := by decide +kernel
theorem dX4_crowd_30 : decode cX4_crowd 30 = .ok (.getfield 53, 3) := by decide +kernel
theorem dX4_crowd_33 : decode cX4_crowd 33 = .ok (.iload_n 2, 1) := by decide +kernel
theorem dX4_crowd_34 : decode cX4_crowd 34 = .ok (.iaload, 1) := by decide +kernel
theorem dX4_crowd_35 : decode cX4_crowd 35 = .ok (.ifCond .le 46, 3) := by decide +kernel
theorem dX4_crowd_38 : decode cX4_crowd 38 = .ok (.aload_n 0, 1) := by decide +kernel
theorem dX4_crowd_39 : decode cX4_crowd 39 = .ok (.getfield 59, 3) := by decide +kernel
theorem dX4_crowd_42 : decode cX4_crowd 42 = .ok (.iload_n 1, 1) := by decide +kernel
theorem dX4_crowd_43 : decode cX4_crowd 43 = .ok (.iaload, 1) := by decide +kernel
theorem dX4_crowd_44 : decode cX4_crowd 44 = .ok (.aload_n 0, 1) := by decide +kernel
theorem dX4_crowd_45 : decode cX4_crowd 45 = .ok (.getfield 59, 3) := by decide +kernel
theorem dX4_crowd_48 : decode cX4_crowd 48 = .ok (.iload_n 2, 1) := by decide +kernel
theorem dX4_crowd_49 : decode cX4_crowd 49 = .ok (.iaload, 1) := by decide +kernel
theorem dX4_crowd_50 : decode cX4_crowd 50 = .ok (.iand, 1) := by decide +kernel
theorem dX4_crowd_51 : decode cX4_crowd 51 = .ok (.ifCond .eq 30, 3) := by decide +kernel
theorem dX4_crowd_54 : decode cX4_crowd 54 = .ok (.aload_n 0, 1) := by decide +kernel
theorem dX4_crowd_55 : decode cX4_crowd 55 = .ok (.getfield 53, 3) := by decide +kernel
theorem dX4_crowd_58 : decode cX4_crowd 58 = .ok (.iload_n 1, 1) := by decide +kernel
theorem dX4_crowd_59 : decode cX4_crowd 59 = .ok (.iaload, 1) := by decide +kernel
theorem dX4_crowd_60 : decode cX4_crowd 60 = .ok (.aload_n 0, 1) := by decide +kernel
theorem dX4_crowd_61 : decode cX4_crowd 61 = .ok (.getfield 53, 3) := by decide +kernel
theorem dX4_crowd_64 : decode cX4_crowd 64 = .ok (.iload_n 2, 1) := by decide +kernel
theorem dX4_crowd_65 : decode cX4_crowd 65 = .ok (.iaload, 1) := by decide +kernel
theorem dX4_crowd_66 : decode cX4_crowd 66 = .ok (.isub, 1) := by decide +kernel
theorem dX4_crowd_67 : decode cX4_crowd 67 = .ok (.invokestatic 95, 3) := by decide +kernel
theorem dX4_crowd_70 : decode cX4_crowd 70 = .ok (.aload_n 0, 1) := by decide +kernel
theorem dX4_crowd_71 : decode cX4_crowd 71 = .ok (.getfield 21, 3) := by decide +kernel
theorem dX4_crowd_74 : decode cX4_crowd 74 = .ok (.if_icmp .ge 7, 3) := by decide +kernel
theorem dX4_crowd_77 : decode cX4_crowd 77 = .ok (.iconst 1, 1) := by decide +kernel
theorem dX4_crowd_78 : decode cX4_crowd 78 = .ok (.goto 4, 3) := by decide +kernel
theorem dX4_crowd_81 : decode cX4_crowd 81 = .ok (.iconst 0, 1) := by decide +kernel
theorem dX4_crowd_82 : decode cX4_crowd 82 = .ok (.ireturn, 1) := by decide +kernel
theorem dX4_crowdedBy_0 : decode cX4_crowdedBy 0 = .ok (.iconst 0, 1) := by decide +kernel
theorem dX4_crowdedBy_1 : decode cX4_crowdedBy 1 = .ok (.istore_n 2, 1) := by decide +kernel
theorem dX4_crowdedBy_2 : decode cX4_crowdedBy 2 = .ok (.iconst 0, 1) := by decide +kernel
theorem dX4_crowdedBy_3 : decode cX4_crowdedBy 3 = .ok (.istore_n 3, 1) := by decide +kernel
theorem dX4_crowdedBy_4 : decode cX4_crowdedBy 4 = .ok (.iload_n 3, 1) := by decide +kernel
theorem dX4_crowdedBy_5 : decode cX4_crowdedBy 5 = .ok (.aload_n 0, 1) := by decide +kernel
theorem dX4_crowdedBy_6 : decode cX4_crowdedBy 6 = .ok (.getfield 9, 3) := by decide +kernel
theorem dX4_crowdedBy_9 : decode cX4_crowdedBy 9 = .ok (.if_icmp .ge 24, 3) := by decide +kernel
theorem dX4_crowdedBy_12 : decode cX4_crowdedBy 12 = .ok (.aload_n 0, 1) := by decide +kernel
theorem dX4_crowdedBy_13 : decode cX4_crowdedBy 13 = .ok (.iload_n 1, 1) := by decide +kernel
theorem dX4_crowdedBy_14 : decode cX4_crowdedBy 14 = .ok (.iload_n 3, 1) := by decide +kernel
theorem dX4_crowdedBy_15 : decode cX4_crowdedBy 15 = .ok (.invokevirtual 99, 3) := by decide +kernel
theorem dX4_crowdedBy_18 : decode cX4_crowdedBy 18 = .ok (.ifCond .eq 9, 3) := by decide +kernel
theorem dX4_crowdedBy_21 : decode cX4_crowdedBy 21 = .ok (.iload_n 2, 1) := by decide +kernel
theorem dX4_crowdedBy_22 : decode cX4_crowdedBy 22 = .ok (.iconst 1, 1) := by decide +kernel
theorem dX4_crowdedBy_23 : decode cX4_crowdedBy 23 = .ok (.iload_n 3, 1) := by decide +kernel
theorem dX4_crowdedBy_24 : decode cX4_crowdedBy 24 = .ok (.ishl, 1) := by decide +kernel
theorem dX4_crowdedBy_25 : decode cX4_crowdedBy 25 = .ok (.ior, 1) := by decide +kernel
theorem dX4_crowdedBy_26 : decode cX4_crowdedBy 26 = .ok (.istore_n 2, 1) := by decide +kernel
theorem dX4_crowdedBy_27 : decode cX4_crowdedBy 27 = .ok (.iinc 3 1, 3) := by decide +kernel
theorem dX4_crowdedBy_30 : decode cX4_crowdedBy 30 = .ok (.goto (-26), 3) := by decide +kernel
theorem dX4_crowdedBy_33 : decode cX4_crowdedBy 33 = .ok (.iload_n 2, 1) := by decide +kernel
theorem dX4_crowdedBy_34 : decode cX4_crowdedBy 34 = .ok (.ireturn, 1) := by decide +kernel
theorem dX4_crowdedCouples_0 : decode cX4_crowdedCouples 0 = .ok (.iconst 0, 1) := by decide +kernel
theorem dX4_crowdedCouples_1 : decode cX4_crowdedCouples 1 = .ok (.istore_n 1, 1) := by decide +kernel
theorem dX4_crowdedCouples_2 : decode cX4_crowdedCouples 2 = .ok (.iconst 0, 1) := by decide +kernel
theorem dX4_crowdedCouples_3 : decode cX4_crowdedCouples 3 = .ok (.istore_n 2, 1) := by decide +kernel
theorem dX4_crowdedCouples_4 : decode cX4_crowdedCouples 4 = .ok (.iload_n 2, 1) := by decide +kernel
theorem dX4_crowdedCouples_5 : decode cX4_crowdedCouples 5 = .ok (.aload_n 0, 1) := by decide +kernel
theorem dX4_crowdedCouples_6 : decode cX4_crowdedCouples 6 = .ok (.getfield 9, 3) := by decide +kernel
theorem dX4_crowdedCouples_9 : decode cX4_crowdedCouples 9 = .ok (.if_icmp .ge 44, 3) := by decide +kernel
theorem dX4_crowdedCouples_12 : decode cX4_crowdedCouples 12 = .ok (.iload_n 2, 1) := by decide +kernel
theorem dX4_crowdedCouples_13 : decode cX4_crowdedCouples 13 = .ok (.iconst 1, 1) := by decide +kernel
theorem dX4_crowdedCouples_14 : decode cX4_crowdedCouples 14 = .ok (.iadd, 1) := by decide +kernel
theorem dX4_crowdedCouples_15 : decode cX4_crowdedCouples 15 = .ok (.istore_n 3, 1) := by decide +kernel
theorem dX4_crowdedCouples_16 : decode cX4_crowdedCouples 16 = .ok (.iload_n 3, 1) := by decide +kernel
theorem dX4_crowdedCouples_17 : decode cX4_crowdedCouples 17 = .ok (.aload_n 0, 1) := by decide +kernel
theorem dX4_crowdedCouples_18 : decode cX4_crowdedCouples 18 = .ok (.getfield 9, 3) := by decide +kernel
theorem dX4_crowdedCouples_21 : decode cX4_crowdedCouples 21 = .ok (.if_icmp .ge 26, 3) := by decide +kernel
theorem dX4_crowdedCouples_24 : decode cX4_crowdedCouples 24 = .ok (.iload_n 1, 1) := by decide +kernel
theorem dX4_crowdedCouples_25 : decode cX4_crowdedCouples 25 = .ok (.aload_n 0, 1) := by decide +kernel
theorem dX4_crowdedCouples_26 : decode cX4_crowdedCouples 26 = .ok (.iload_n 2, 1) := by decide +kernel
theorem dX4_crowdedCouples_27 : decode cX4_crowdedCouples 27 = .ok (.iload_n 3, 1) := by decide +kernel
theorem dX4_crowdedCouples_28 : decode cX4_crowdedCouples 28 = .ok (.invokevirtual 99, 3) := by decide +kernel
theorem dX4_crowdedCouples_31 : decode cX4_crowdedCouples 31 = .ok (.ifCond .eq 7, 3) := by decide +kernel
theorem dX4_crowdedCouples_34 : decode cX4_crowdedCouples 34 = .ok (.iconst 1, 1) := by decide +kernel
theorem dX4_crowdedCouples_35 : decode cX4_crowdedCouples 35 = .ok (.goto 4, 3) := by decide +kernel
theorem dX4_crowdedCouples_38 : decode cX4_crowdedCouples 38 = .ok (.iconst 0, 1) := by decide +kernel
theorem dX4_crowdedCouples_39 : decode cX4_crowdedCouples 39 = .ok (.iadd, 1) := by decide +kernel
theorem dX4_crowdedCouples_40 : decode cX4_crowdedCouples 40 = .ok (.istore_n 1, 1) := by decide +kernel
theorem dX4_crowdedCouples_41 : decode cX4_crowdedCouples 41 = .ok (.iinc 3 1, 3) := by decide +kernel
theorem dX4_crowdedCouples_44 : decode cX4_crowdedCouples 44 = .ok (.goto (-28), 3) := by decide +kernel
theorem dX4_crowdedCouples_47 : decode cX4_crowdedCouples 47 = .ok (.iinc 2 1, 3) := by decide +kernel
theorem dX4_crowdedCouples_50 : decode cX4_crowdedCouples 50 = .ok (.goto (-46), 3) := by decide +kernel
theorem dX4_crowdedCouples_53 : decode cX4_crowdedCouples 53 = .ok (.iload_n 1, 1) := by decide +kernel
theorem dX4_crowdedCouples_54 : decode cX4_crowdedCouples 54 = .ok (.ireturn, 1) := by decide +kernel
