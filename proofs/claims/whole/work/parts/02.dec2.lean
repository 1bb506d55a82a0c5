theorem dX4_nearestOfSite_0 : decode cX4_nearestOfSite 0 = .ok (.bipush (-2), 2) := by decide +kernel
theorem dX4_nearestOfSite_2 : decode cX4_nearestOfSite 2 = .ok (.istore_n 2, 1) := by decide +kernel
theorem dX4_nearestOfSite_3 : decode cX4_nearestOfSite 3 = .ok (.iconst 0, 1) := by decide +kernel
theorem dX4_nearestOfSite_4 : decode cX4_nearestOfSite 4 = .ok (.istore_n 3, 1) := by decide +kernel
theorem dX4_nearestOfSite_5 : decode cX4_nearestOfSite 5 = .ok (.iconst 0, 1) := by decide +kernel
theorem dX4_nearestOfSite_6 : decode cX4_nearestOfSite 6 = .ok (.istore 4, 2) := by decide +kernel
theorem dX4_nearestOfSite_8 : decode cX4_nearestOfSite 8 = .ok (.iload 4, 2) := by decide +kernel
theorem dX4_nearestOfSite_10 : decode cX4_nearestOfSite 10 = .ok (.aload_n 0, 1) := by decide +kernel
theorem dX4_nearestOfSite_11 : decode cX4_nearestOfSite 11 = .ok (.getfield 9, 3) := by decide +kernel
theorem dX4_nearestOfSite_14 : decode cX4_nearestOfSite 14 = .ok (.if_icmp .ge 74, 3) := by decide +kernel
theorem dX4_nearestOfSite_17 : decode cX4_nearestOfSite 17 = .ok (.aload_n 0, 1) := by decide +kernel
theorem dX4_nearestOfSite_18 : decode cX4_nearestOfSite 18 = .ok (.getfield 53, 3) := by decide +kernel
theorem dX4_nearestOfSite_21 : decode cX4_nearestOfSite 21 = .ok (.iload_n 1, 1) := by decide +kernel
theorem dX4_nearestOfSite_22 : decode cX4_nearestOfSite 22 = .ok (.iaload, 1) := by decide +kernel
theorem dX4_nearestOfSite_23 : decode cX4_nearestOfSite 23 = .ok (.ifCond .le 65, 3) := by decide +kernel
theorem dX4_nearestOfSite_26 : decode cX4_nearestOfSite 26 = .ok (.iload 4, 2) := by decide +kernel
theorem dX4_nearestOfSite_28 : decode cX4_nearestOfSite 28 = .ok (.iload_n 1, 1) := by decide +kernel
theorem dX4_nearestOfSite_29 : decode cX4_nearestOfSite 29 = .ok (.if_icmp .eq 53, 3) := by decide +kernel
theorem dX4_nearestOfSite_32 : decode cX4_nearestOfSite 32 = .ok (.aload_n 0, 1) := by decide +kernel
theorem dX4_nearestOfSite_33 : decode cX4_nearestOfSite 33 = .ok (.iload 4, 2) := by decide +kernel
theorem dX4_nearestOfSite_35 : decode cX4_nearestOfSite 35 = .ok (.aload_n 0, 1) := by decide +kernel
theorem dX4_nearestOfSite_36 : decode cX4_nearestOfSite 36 = .ok (.getfield 44, 3) := by decide +kernel
theorem dX4_nearestOfSite_39 : decode cX4_nearestOfSite 39 = .ok (.iload_n 1, 1) := by decide +kernel
theorem dX4_nearestOfSite_40 : decode cX4_nearestOfSite 40 = .ok (.iaload, 1) := by decide +kernel
theorem dX4_nearestOfSite_41 : decode cX4_nearestOfSite 41 = .ok (.invokevirtual 103, 3) := by decide +kernel
theorem dX4_nearestOfSite_44 : decode cX4_nearestOfSite 44 = .ok (.ifCond .eq 38, 3) := by decide +kernel
theorem dX4_nearestOfSite_47 : decode cX4_nearestOfSite 47 = .ok (.aload_n 0, 1) := by decide +kernel
theorem dX4_nearestOfSite_48 : decode cX4_nearestOfSite 48 = .ok (.getfield 53, 3) := by decide +kernel
theorem dX4_nearestOfSite_51 : decode cX4_nearestOfSite 51 = .ok (.iload_n 1, 1) := by decide +kernel
theorem dX4_nearestOfSite_52 : decode cX4_nearestOfSite 52 = .ok (.iaload, 1) := by decide +kernel
theorem dX4_nearestOfSite_53 : decode cX4_nearestOfSite 53 = .ok (.aload_n 0, 1) := by decide +kernel
theorem dX4_nearestOfSite_54 : decode cX4_nearestOfSite 54 = .ok (.getfield 53, 3) := by decide +kernel
theorem dX4_nearestOfSite_57 : decode cX4_nearestOfSite 57 = .ok (.iload 4, 2) := by decide +kernel
theorem dX4_nearestOfSite_59 : decode cX4_nearestOfSite 59 = .ok (.iaload, 1) := by decide +kernel
theorem dX4_nearestOfSite_60 : decode cX4_nearestOfSite 60 = .ok (.isub, 1) := by decide +kernel
theorem dX4_nearestOfSite_61 : decode cX4_nearestOfSite 61 = .ok (.invokestatic 95, 3) := by decide +kernel
theorem dX4_nearestOfSite_64 : decode cX4_nearestOfSite 64 = .ok (.istore 5, 2) := by decide +kernel
theorem dX4_nearestOfSite_66 : decode cX4_nearestOfSite 66 = .ok (.iload_n 2, 1) := by decide +kernel
theorem dX4_nearestOfSite_67 : decode cX4_nearestOfSite 67 = .ok (.ifCond .lt 9, 3) := by decide +kernel
theorem dX4_nearestOfSite_70 : decode cX4_nearestOfSite 70 = .ok (.iload 5, 2) := by decide +kernel
theorem dX4_nearestOfSite_72 : decode cX4_nearestOfSite 72 = .ok (.iload_n 3, 1) := by decide +kernel
theorem dX4_nearestOfSite_73 : decode cX4_nearestOfSite 73 = .ok (.if_icmp .ge 9, 3) := by decide +kernel
theorem dX4_nearestOfSite_76 : decode cX4_nearestOfSite 76 = .ok (.iload 4, 2) := by decide +kernel
theorem dX4_nearestOfSite_78 : decode cX4_nearestOfSite 78 = .ok (.istore_n 2, 1) := by decide +kernel
theorem dX4_nearestOfSite_79 : decode cX4_nearestOfSite 79 = .ok (.iload 5, 2) := by decide +kernel
theorem dX4_nearestOfSite_81 : decode cX4_nearestOfSite 81 = .ok (.istore_n 3, 1) := by decide +kernel
theorem dX4_nearestOfSite_82 : decode cX4_nearestOfSite 82 = .ok (.iinc 4 1, 3) := by decide +kernel
theorem dX4_nearestOfSite_85 : decode cX4_nearestOfSite 85 = .ok (.goto (-77), 3) := by decide +kernel
theorem dX4_nearestOfSite_88 : decode cX4_nearestOfSite 88 = .ok (.iload_n 2, 1) := by decide +kernel
theorem dX4_nearestOfSite_89 : decode cX4_nearestOfSite 89 = .ok (.ireturn, 1) := by decide +kernel
theorem dX4_wantsSort_0 : decode cX4_wantsSort 0 = .ok (.aload_n 0, 1) := by decide +kernel
theorem dX4_wantsSort_1 : decode cX4_wantsSort 1 = .ok (.getfield 24, 3) := by decide +kernel
theorem dX4_wantsSort_4 : decode cX4_wantsSort 4 = .ok (.getstatic 106, 3) := by decide +kernel
theorem dX4_wantsSort_7 : decode cX4_wantsSort 7 = .ok (.iload_n 1, 1) := by decide +kernel
theorem dX4_wantsSort_8 : decode cX4_wantsSort 8 = .ok (.iaload, 1) := by decide +kernel
theorem dX4_wantsSort_9 : decode cX4_wantsSort 9 = .ok (.ishr, 1) := by decide +kernel
theorem dX4_wantsSort_10 : decode cX4_wantsSort 10 = .ok (.iconst 1, 1) := by decide +kernel
theorem dX4_wantsSort_11 : decode cX4_wantsSort 11 = .ok (.iand, 1) := by decide +kernel
theorem dX4_wantsSort_12 : decode cX4_wantsSort 12 = .ok (.ifCond .eq 7, 3) := by decide +kernel
theorem dX4_wantsSort_15 : decode cX4_wantsSort 15 = .ok (.iconst 1, 1) := by decide +kernel
theorem dX4_wantsSort_16 : decode cX4_wantsSort 16 = .ok (.goto 4, 3) := by decide +kernel
theorem dX4_wantsSort_19 : decode cX4_wantsSort 19 = .ok (.iconst 0, 1) := by decide +kernel
theorem dX4_wantsSort_20 : decode cX4_wantsSort 20 = .ok (.ireturn, 1) := by decide +kernel
theorem dX4_guardedChannels_0 : decode cX4_guardedChannels 0 = .ok (.lconst 0, 1) := by decide +kernel
theorem dX4_guardedChannels_1 : decode cX4_guardedChannels 1 = .ok (.lstore_n 1, 1) := by decide +kernel
theorem dX4_guardedChannels_2 : decode cX4_guardedChannels 2 = .ok (.iconst 0, 1) := by decide +kernel
theorem dX4_guardedChannels_3 : decode cX4_guardedChannels 3 = .ok (.istore_n 3, 1) := by decide +kernel
theorem dX4_guardedChannels_4 : decode cX4_guardedChannels 4 = .ok (.iload_n 3, 1) := by decide +kernel
theorem dX4_guardedChannels_5 : decode cX4_guardedChannels 5 = .ok (.aload_n 0, 1) := by decide +kernel
theorem dX4_guardedChannels_6 : decode cX4_guardedChannels 6 = .ok (.getfield 9, 3) := by decide +kernel
theorem dX4_guardedChannels_9 : decode cX4_guardedChannels 9 = .ok (.if_icmp .ge 81, 3) := by decide +kernel
theorem dX4_guardedChannels_12 : decode cX4_guardedChannels 12 = .ok (.iconst 1, 1) := by decide +kernel
theorem dX4_guardedChannels_13 : decode cX4_guardedChannels 13 = .ok (.aload_n 0, 1) := by decide +kernel
theorem dX4_guardedChannels_14 : decode cX4_guardedChannels 14 = .ok (.getfield 53, 3) := by decide +kernel
theorem dX4_guardedChannels_17 : decode cX4_guardedChannels 17 = .ok (.iload_n 3, 1) := by decide +kernel
theorem dX4_guardedChannels_18 : decode cX4_guardedChannels 18 = .ok (.iaload, 1) := by decide +kernel
theorem dX4_guardedChannels_19 : decode cX4_guardedChannels 19 = .ok (.aload_n 0, 1) := by decide +kernel
theorem dX4_guardedChannels_20 : decode cX4_guardedChannels 20 = .ok (.getfield 18, 3) := by decide +kernel
theorem dX4_guardedChannels_23 : decode cX4_guardedChannels 23 = .ok (.isub, 1) := by decide +kernel
theorem dX4_guardedChannels_24 : decode cX4_guardedChannels 24 = .ok (.invokestatic 78, 3) := by decide +kernel
theorem dX4_guardedChannels_27 : decode cX4_guardedChannels 27 = .ok (.istore 4, 2) := by decide +kernel
theorem dX4_guardedChannels_29 : decode cX4_guardedChannels 29 = .ok (.aload_n 0, 1) := by decide +kernel
theorem dX4_guardedChannels_30 : decode cX4_guardedChannels 30 = .ok (.getfield 53, 3) := by decide +kernel
theorem dX4_guardedChannels_33 : decode cX4_guardedChannels 33 = .ok (.iload_n 3, 1) := by decide +kernel
theorem dX4_guardedChannels_34 : decode cX4_guardedChannels 34 = .ok (.iaload, 1) := by decide +kernel
theorem dX4_guardedChannels_35 : decode cX4_guardedChannels 35 = .ok (.ifCond .ne 7, 3) := by decide +kernel
theorem dX4_guardedChannels_38 : decode cX4_guardedChannels 38 = .ok (.iconst 0, 1) := by decide +kernel
theorem dX4_guardedChannels_39 : decode cX4_guardedChannels 39 = .ok (.goto 19, 3) := by decide +kernel
theorem dX4_guardedChannels_42 : decode cX4_guardedChannels 42 = .ok (.bipush 60, 2) := by decide +kernel
theorem dX4_guardedChannels_44 : decode cX4_guardedChannels 44 = .ok (.aload_n 0, 1) := by decide +kernel
theorem dX4_guardedChannels_45 : decode cX4_guardedChannels 45 = .ok (.getfield 53, 3) := by decide +kernel
theorem dX4_guardedChannels_48 : decode cX4_guardedChannels 48 = .ok (.iload_n 3, 1) := by decide +kernel
theorem dX4_guardedChannels_49 : decode cX4_guardedChannels 49 = .ok (.iaload, 1) := by decide +kernel
theorem dX4_guardedChannels_50 : decode cX4_guardedChannels 50 = .ok (.aload_n 0, 1) := by decide +kernel
theorem dX4_guardedChannels_51 : decode cX4_guardedChannels 51 = .ok (.getfield 18, 3) := by decide +kernel
theorem dX4_guardedChannels_54 : decode cX4_guardedChannels 54 = .ok (.iadd, 1) := by decide +kernel
theorem dX4_guardedChannels_55 : decode cX4_guardedChannels 55 = .ok (.invokestatic 72, 3) := by decide +kernel
theorem dX4_guardedChannels_58 : decode cX4_guardedChannels 58 = .ok (.istore 5, 2) := by decide +kernel
theorem dX4_guardedChannels_60 : decode cX4_guardedChannels 60 = .ok (.iload 4, 2) := by decide +kernel
theorem dX4_guardedChannels_62 : decode cX4_guardedChannels 62 = .ok (.istore 6, 2) := by decide +kernel
theorem dX4_guardedChannels_64 : decode cX4_guardedChannels 64 = .ok (.iload 6, 2) := by decide +kernel
theorem dX4_guardedChannels_66 : decode cX4_guardedChannels 66 = .ok (.iload 5, 2) := by decide +kernel
theorem dX4_guardedChannels_68 : decode cX4_guardedChannels 68 = .ok (.if_icmp .gt 16, 3) := by decide +kernel
theorem dX4_guardedChannels_71 : decode cX4_guardedChannels 71 = .ok (.lload_n 1, 1) := by decide +kernel
theorem dX4_guardedChannels_72 : decode cX4_guardedChannels 72 = .ok (.lconst 1, 1) := by decide +kernel
theorem dX4_guardedChannels_73 : decode cX4_guardedChannels 73 = .ok (.iload 6, 2) := by decide +kernel
theorem dX4_guardedChannels_75 : decode cX4_guardedChannels 75 = .ok (.lshl, 1) := by decide +kernel
theorem dX4_guardedChannels_76 : decode cX4_guardedChannels 76 = .ok (.lor, 1) := by decide +kernel
theorem dX4_guardedChannels_77 : decode cX4_guardedChannels 77 = .ok (.lstore_n 1, 1) := by decide +kernel
theorem dX4_guardedChannels_78 : decode cX4_guardedChannels 78 = .ok (.iinc 6 1, 3) := by decide +kernel
theorem dX4_guardedChannels_81 : decode cX4_guardedChannels 81 = .ok (.goto (-17), 3) := by decide +kernel
theorem dX4_guardedChannels_84 : decode cX4_guardedChannels 84 = .ok (.iinc 3 1, 3) := by decide +kernel
theorem dX4_guardedChannels_87 : decode cX4_guardedChannels 87 = .ok (.goto (-83), 3) := by decide +kernel
theorem dX4_guardedChannels_90 : decode cX4_guardedChannels 90 = .ok (.lload_n 1, 1) := by decide +kernel
theorem dX4_guardedChannels_91 : decode cX4_guardedChannels 91 = .ok (.lreturn, 1) := by decide +kernel
theorem dX5_init_0 : decode cX5_init 0 = .ok (.aload_n 0, 1) := by decide +kernel
theorem dX5_init_1 : decode cX5_init 1 = .ok (.invokespecial 3, 3) := by decide +kernel
theorem dX5_init_4 : decode cX5_init 4 = .ok (.aload_n 0, 1) := by decide +kernel
theorem dX5_init_5 : decode cX5_init 5 = .ok (.bipush 6, 2) := by decide +kernel
theorem dX5_init_7 : decode cX5_init 7 = .ok (.newarray .int, 2) := by decide +kernel
theorem dX5_init_9 : decode cX5_init 9 = .ok (.putfield 9, 3) := by decide +kernel
theorem dX5_init_12 : decode cX5_init 12 = .ok (.aload_n 0, 1) := by decide +kernel
theorem dX5_init_13 : decode cX5_init 13 = .ok (.iconst 0, 1) := by decide +kernel
theorem dX5_init_14 : decode cX5_init 14 = .ok (.putfield 15, 3) := by decide +kernel
theorem dX5_init_17 : decode cX5_init 17 = .ok (.aload_n 0, 1) := by decide +kernel
theorem dX5_init_18 : decode cX5_init 18 = .ok (.iconst 0, 1) := by decide +kernel
theorem dX5_init_19 : decode cX5_init 19 = .ok (.putfield 19, 3) := by decide +kernel
theorem dX5_init_22 : decode cX5_init 22 = .ok (.return_, 1) := by decide +kernel
theorem dX5_seek_0 : decode cX5_seek 0 = .ok (.aload_n 0, 1) := by decide +kernel
theorem dX5_seek_1 : decode cX5_seek 1 = .ok (.aload_n 2, 1) := by decide +kernel
theorem dX5_seek_2 : decode cX5_seek 2 = .ok (.iload_n 3, 1) := by decide +kernel
theorem dX5_seek_3 : decode cX5_seek 3 = .ok (.invokevirtual 22, 3) := by decide +kernel
theorem dX5_seek_6 : decode cX5_seek 6 = .ok (.aload_n 0, 1) := by decide +kernel
theorem dX5_seek_7 : decode cX5_seek 7 = .ok (.iconst 0, 1) := by decide +kernel
theorem dX5_seek_8 : decode cX5_seek 8 = .ok (.putfield 19, 3) := by decide +kernel
theorem dX5_seek_11 : decode cX5_seek 11 = .ok (.aload_n 1, 1) := by decide +kernel
theorem dX5_seek_12 : decode cX5_seek 12 = .ok (.aload_n 2, 1) := by decide +kernel
theorem dX5_seek_13 : decode cX5_seek 13 = .ok (.invokevirtual 26, 3) := by decide +kernel
theorem dX5_seek_16 : decode cX5_seek 16 = .ok (.ifCond .ne 6, 3) := by decide +kernel
theorem dX5_seek_19 : decode cX5_seek 19 = .ok (.bipush (-2), 2) := by decide +kernel
theorem dX5_seek_21 : decode cX5_seek 21 = .ok (.ireturn, 1) := by decide +kernel
theorem dX5_seek_22 : decode cX5_seek 22 = .ok (.iconst 0, 1) := by decide +kernel
theorem dX5_seek_23 : decode cX5_seek 23 = .ok (.istore 4, 2) := by decide +kernel
theorem dX5_seek_25 : decode cX5_seek 25 = .ok (.iconst 0, 1) := by decide +kernel
theorem dX5_seek_26 : decode cX5_seek 26 = .ok (.istore 5, 2) := by decide +kernel
theorem dX5_seek_28 : decode cX5_seek 28 = .ok (.iload 5, 2) := by decide +kernel
theorem dX5_seek_30 : decode cX5_seek 30 = .ok (.sipush 1202, 3) := by decide +kernel
theorem dX5_seek_33 : decode cX5_seek 33 = .ok (.if_icmp .ge 135, 3) := by decide +kernel
theorem dX5_seek_36 : decode cX5_seek 36 = .ok (.iload 4, 2) := by decide +kernel
theorem dX5_seek_38 : decode cX5_seek 38 = .ok (.ifCond .lt 130, 3) := by decide +kernel
theorem dX5_seek_41 : decode cX5_seek 41 = .ok (.iload 4, 2) := by decide +kernel
theorem dX5_seek_43 : decode cX5_seek 43 = .ok (.aload_n 0, 1) := by decide +kernel
theorem dX5_seek_44 : decode cX5_seek 44 = .ok (.getfield 15, 3) := by decide +kernel
theorem dX5_seek_47 : decode cX5_seek 47 = .ok (.if_icmp .ge 121, 3) := by decide +kernel
theorem dX5_seek_50 : decode cX5_seek 50 = .ok (.aload_n 0, 1) := by decide +kernel
theorem dX5_seek_51 : decode cX5_seek 51 = .ok (.getfield 9, 3) := by decide +kernel
theorem dX5_seek_54 : decode cX5_seek 54 = .ok (.iload 4, 2) := by decide +kernel
theorem dX5_seek_56 : decode cX5_seek 56 = .ok (.iaload, 1) := by decide +kernel
theorem dX5_seek_57 : decode cX5_seek 57 = .ok (.istore 6, 2) := by decide +kernel
theorem dX5_seek_59 : decode cX5_seek 59 = .ok (.aload_n 2, 1) := by decide +kernel
theorem dX5_seek_60 : decode cX5_seek 60 = .ok (.getfield 32, 3) := by decide +kernel
theorem dX5_seek_63 : decode cX5_seek 63 = .ok (.iload 6, 2) := by decide +kernel
theorem dX5_seek_65 : decode cX5_seek 65 = .ok (.iaload, 1) := by decide +kernel
theorem dX5_seek_66 : decode cX5_seek 66 = .ok (.aload_n 2, 1) := by decide +kernel
theorem dX5_seek_67 : decode cX5_seek 67 = .ok (.getfield 37, 3) := by decide +kernel
theorem dX5_seek_70 : decode cX5_seek 70 = .ok (.iload 6, 2) := by decide +kernel
theorem dX5_seek_72 : decode cX5_seek 72 = .ok (.iaload, 1) := by decide +kernel
theorem dX5_seek_73 : decode cX5_seek 73 = .ok (.iconst 1, 1) := by decide +kernel
theorem dX5_seek_74 : decode cX5_seek 74 = .ok (.iadd, 1) := by decide +kernel
theorem dX5_seek_75 : decode cX5_seek 75 = .ok (.invokestatic 40, 3) := by decide +kernel
theorem dX5_seek_78 : decode cX5_seek 78 = .ok (.istore 7, 2) := by decide +kernel
theorem dX5_seek_80 : decode cX5_seek 80 = .ok (.iload 7, 2) := by decide +kernel
theorem dX5_seek_82 : decode cX5_seek 82 = .ok (.aload_n 2, 1) := by decide +kernel
theorem dX5_seek_83 : decode cX5_seek 83 = .ok (.getfield 46, 3) := by decide +kernel
theorem dX5_seek_86 : decode cX5_seek 86 = .ok (.iload 6, 2) := by decide +kernel
theorem dX5_seek_88 : decode cX5_seek 88 = .ok (.iaload, 1) := by decide +kernel
theorem dX5_seek_89 : decode cX5_seek 89 = .ok (.if_icmp .le 17, 3) := by decide +kernel
theorem dX5_seek_92 : decode cX5_seek 92 = .ok (.aload_n 2, 1) := by decide +kernel
theorem dX5_seek_93 : decode cX5_seek 93 = .ok (.getfield 37, 3) := by decide +kernel
theorem dX5_seek_96 : decode cX5_seek 96 = .ok (.iload 6, 2) := by decide +kernel
theorem dX5_seek_98 : decode cX5_seek 98 = .ok (.iconst 0, 1) := by decide +kernel
theorem dX5_seek_99 : decode cX5_seek 99 = .ok (.iastore, 1) := by decide +kernel
theorem dX5_seek_100 : decode cX5_seek 100 = .ok (.iinc 4 (-1), 3) := by decide +kernel
theorem dX5_seek_103 : decode cX5_seek 103 = .ok (.goto 59, 3) := by decide +kernel
theorem dX5_seek_106 : decode cX5_seek 106 = .ok (.aload_n 0, 1) := by decide +kernel
theorem dX5_seek_107 : decode cX5_seek 107 = .ok (.getfield 19, 3) := by decide +kernel
theorem dX5_seek_110 : decode cX5_seek 110 = .ok (.sipush 600, 3) := by decide +kernel
theorem dX5_seek_113 : decode cX5_seek 113 = .ok (.if_icmp .ne 12, 3) := by decide +kernel
theorem dX5_seek_116 : decode cX5_seek 116 = .ok (.aload_n 0, 1) := by decide +kernel
theorem dX5_seek_117 : decode cX5_seek 117 = .ok (.aload_n 2, 1) := by decide +kernel
theorem dX5_seek_118 : decode cX5_seek 118 = .ok (.iload_n 3, 1) := by decide +kernel
theorem dX5_seek_119 : decode cX5_seek 119 = .ok (.invokevirtual 22, 3) := by decide +kernel
theorem dX5_seek_122 : decode cX5_seek 122 = .ok (.bipush (-3), 2) := by decide +kernel
theorem dX5_seek_124 : decode cX5_seek 124 = .ok (.ireturn, 1) := by decide +kernel
theorem dX5_seek_125 : decode cX5_seek 125 = .ok (.aload_n 0, 1) := by decide +kernel
theorem dX5_seek_126 : decode cX5_seek 126 = .ok (.dup, 1) := by decide +kernel
theorem dX5_seek_127 : decode cX5_seek 127 = .ok (.getfield 19, 3) := by decide +kernel
theorem dX5_seek_130 : decode cX5_seek 130 = .ok (.iconst 1, 1) := by decide +kernel
theorem dX5_seek_131 : decode cX5_seek 131 = .ok (.iadd, 1) := by decide +kernel
theorem dX5_seek_132 : decode cX5_seek 132 = .ok (.putfield 19, 3) := by decide +kernel
theorem dX5_seek_135 : decode cX5_seek 135 = .ok (.aload_n 2, 1) := by decide +kernel
theorem dX5_seek_136 : decode cX5_seek 136 = .ok (.getfield 37, 3) := by decide +kernel
theorem dX5_seek_139 : decode cX5_seek 139 = .ok (.iload 6, 2) := by decide +kernel
theorem dX5_seek_141 : decode cX5_seek 141 = .ok (.iload 7, 2) := by decide +kernel
theorem dX5_seek_143 : decode cX5_seek 143 = .ok (.iastore, 1) := by decide +kernel
theorem dX5_seek_144 : decode cX5_seek 144 = .ok (.iload 4, 2) := by decide +kernel
theorem dX5_seek_146 : decode cX5_seek 146 = .ok (.aload_n 1, 1) := by decide +kernel
theorem dX5_seek_147 : decode cX5_seek 147 = .ok (.aload_n 2, 1) := by decide +kernel
theorem dX5_seek_148 : decode cX5_seek 148 = .ok (.invokevirtual 26, 3) := by decide +kernel
theorem dX5_seek_151 : decode cX5_seek 151 = .ok (.ifCond .eq 7, 3) := by decide +kernel
theorem dX5_seek_154 : decode cX5_seek 154 = .ok (.iconst 1, 1) := by decide +kernel
theorem dX5_seek_155 : decode cX5_seek 155 = .ok (.goto 4, 3) := by decide +kernel
theorem dX5_seek_158 : decode cX5_seek 158 = .ok (.iconst 0, 1) := by decide +kernel
theorem dX5_seek_159 : decode cX5_seek 159 = .ok (.iadd, 1) := by decide +kernel
theorem dX5_seek_160 : decode cX5_seek 160 = .ok (.istore 4, 2) := by decide +kernel
theorem dX5_seek_162 : decode cX5_seek 162 = .ok (.iinc 5 1, 3) := by decide +kernel
theorem dX5_seek_165 : decode cX5_seek 165 = .ok (.goto (-137), 3) := by decide +kernel
theorem dX5_seek_168 : decode cX5_seek 168 = .ok (.iload 4, 2) := by decide +kernel
theorem dX5_seek_170 : decode cX5_seek 170 = .ok (.aload_n 0, 1) := by decide +kernel
theorem dX5_seek_171 : decode cX5_seek 171 = .ok (.getfield 15, 3) := by decide +kernel
theorem dX5_seek_174 : decode cX5_seek 174 = .ok (.if_icmp .ne 7, 3) := by decide +kernel
theorem dX5_seek_177 : decode cX5_seek 177 = .ok (.iconst 0, 1) := by decide +kernel
theorem dX5_seek_178 : decode cX5_seek 178 = .ok (.goto 5, 3) := by decide +kernel
theorem dX5_seek_181 : decode cX5_seek 181 = .ok (.bipush (-2), 2) := by decide +kernel
theorem dX5_seek_183 : decode cX5_seek 183 = .ok (.ireturn, 1) := by decide +kernel
theorem dX5_untune_0 : decode cX5_untune 0 = .ok (.aload_n 0, 1) := by decide +kernel
theorem dX5_untune_1 : decode cX5_untune 1 = .ok (.iconst 0, 1) := by decide +kernel
theorem dX5_untune_2 : decode cX5_untune 2 = .ok (.putfield 15, 3) := by decide +kernel
theorem dX5_untune_5 : decode cX5_untune 5 = .ok (.iconst 0, 1) := by decide +kernel
theorem dX5_untune_6 : decode cX5_untune 6 = .ok (.istore_n 3, 1) := by decide +kernel
theorem dX5_untune_7 : decode cX5_untune 7 = .ok (.iload_n 3, 1) := by decide +kernel
theorem dX5_untune_8 : decode cX5_untune 8 = .ok (.aload_n 1, 1) := by decide +kernel
theorem dX5_untune_9 : decode cX5_untune 9 = .ok (.getfield 49, 3) := by decide +kernel
theorem dX5_untune_12 : decode cX5_untune 12 = .ok (.if_icmp .ge 53, 3) := by decide +kernel
theorem dX5_untune_15 : decode cX5_untune 15 = .ok (.aload_n 0, 1) := by decide +kernel
theorem dX5_untune_16 : decode cX5_untune 16 = .ok (.getfield 15, 3) := by decide +kernel
theorem dX5_untune_19 : decode cX5_untune 19 = .ok (.bipush 6, 2) := by decide +kernel
theorem dX5_untune_21 : decode cX5_untune 21 = .ok (.if_icmp .ge 44, 3) := by decide +kernel
theorem dX5_untune_24 : decode cX5_untune 24 = .ok (.iload_n 2, 1) := by decide +kernel
theorem dX5_untune_25 : decode cX5_untune 25 = .ok (.iload_n 3, 1) := by decide +kernel
theorem dX5_untune_26 : decode cX5_untune 26 = .ok (.ishr, 1) := by decide +kernel
theorem dX5_untune_27 : decode cX5_untune 27 = .ok (.iconst 1, 1) := by decide +kernel
theorem dX5_untune_28 : decode cX5_untune 28 = .ok (.iand, 1) := by decide +kernel
theorem dX5_untune_29 : decode cX5_untune 29 = .ok (.ifCond .eq 30, 3) := by decide +kernel
theorem dX5_untune_32 : decode cX5_untune 32 = .ok (.aload_n 1, 1) := by decide +kernel
theorem dX5_untune_33 : decode cX5_untune 33 = .ok (.getfield 37, 3) := by decide +kernel
theorem dX5_untune_36 : decode cX5_untune 36 = .ok (.iload_n 3, 1) := by decide +kernel
theorem dX5_untune_37 : decode cX5_untune 37 = .ok (.iconst 0, 1) := by decide +kernel
theorem dX5_untune_38 : decode cX5_untune 38 = .ok (.iastore, 1) := by decide +kernel
theorem dX5_untune_39 : decode cX5_untune 39 = .ok (.aload_n 0, 1) := by decide +kernel
theorem dX5_untune_40 : decode cX5_untune 40 = .ok (.getfield 9, 3) := by decide +kernel
theorem dX5_untune_43 : decode cX5_untune 43 = .ok (.aload_n 0, 1) := by decide +kernel
theorem dX5_untune_44 : decode cX5_untune 44 = .ok (.getfield 15, 3) := by decide +kernel
theorem dX5_untune_47 : decode cX5_untune 47 = .ok (.iload_n 3, 1) := by decide +kernel
theorem dX5_untune_48 : decode cX5_untune 48 = .ok (.iastore, 1) := by decide +kernel
theorem dX5_untune_49 : decode cX5_untune 49 = .ok (.aload_n 0, 1) := by decide +kernel
theorem dX5_untune_50 : decode cX5_untune 50 = .ok (.dup, 1) := by decide +kernel
theorem dX5_untune_51 : decode cX5_untune 51 = .ok (.getfield 15, 3) := by decide +kernel
theorem dX5_untune_54 : decode cX5_untune 54 = .ok (.iconst 1, 1) := by decide +kernel
theorem dX5_untune_55 : decode cX5_untune 55 = .ok (.iadd, 1) := by decide +kernel
theorem dX5_untune_56 : decode cX5_untune 56 = .ok (.putfield 15, 3) := by decide +kernel
theorem dX5_untune_59 : decode cX5_untune 59 = .ok (.iinc 3 1, 3) := by decide +kernel
theorem dX5_untune_62 : decode cX5_untune 62 = .ok (.goto (-55), 3) := by decide +kernel
theorem dX5_untune_65 : decode cX5_untune 65 = .ok (.return_, 1) := by decide +kernel
theorem dX6_init_0 : decode cX6_init 0 = .ok (.aload_n 0, 1) := by decide +kernel
theorem dX6_init_1 : decode cX6_init 1 = .ok (.invokespecial 3, 3) := by decide +kernel
theorem dX6_init_4 : decode cX6_init 4 = .ok (.aload_n 0, 1) := by decide +kernel
theorem dX6_init_5 : decode cX6_init 5 = .ok (.sipush 700, 3) := by decide +kernel
theorem dX6_init_8 : decode cX6_init 8 = .ok (.newarray .int, 2) := by decide +kernel
theorem dX6_init_10 : decode cX6_init 10 = .ok (.putfield 9, 3) := by decide +kernel
theorem dX6_init_13 : decode cX6_init 13 = .ok (.aload_n 0, 1) := by decide +kernel
theorem dX6_init_14 : decode cX6_init 14 = .ok (.iconst 0, 1) := by decide +kernel
theorem dX6_init_15 : decode cX6_init 15 = .ok (.putfield 13, 3) := by decide +kernel
theorem dX6_init_18 : decode cX6_init 18 = .ok (.aload_n 0, 1) := by decide +kernel
theorem dX6_init_19 : decode cX6_init 19 = .ok (.iconst 0, 1) := by decide +kernel
theorem dX6_init_20 : decode cX6_init 20 = .ok (.putfield 17, 3) := by decide +kernel
theorem dX6_init_23 : decode cX6_init 23 = .ok (.aload_n 0, 1) := by decide +kernel
theorem dX6_init_24 : decode cX6_init 24 = .ok (.iconst (-1), 1) := by decide +kernel
theorem dX6_init_25 : decode cX6_init 25 = .ok (.putfield 20, 3) := by decide +kernel
theorem dX6_init_28 : decode cX6_init 28 = .ok (.aload_n 0, 1) := by decide +kernel
theorem dX6_init_29 : decode cX6_init 29 = .ok (.new 23, 3) := by decide +kernel
theorem dX6_init_32 : decode cX6_init 32 = .ok (.dup, 1) := by decide +kernel
theorem dX6_init_33 : decode cX6_init 33 = .ok (.invokespecial 25, 3) := by decide +kernel
theorem dX6_init_36 : decode cX6_init 36 = .ok (.putfield 26, 3) := by decide +kernel
theorem dX6_init_39 : decode cX6_init 39 = .ok (.aload_n 0, 1) := by decide +kernel
theorem dX6_init_40 : decode cX6_init 40 = .ok (.new 23, 3) := by decide +kernel
theorem dX6_init_43 : decode cX6_init 43 = .ok (.dup, 1) := by decide +kernel
theorem dX6_init_44 : decode cX6_init 44 = .ok (.invokespecial 25, 3) := by decide +kernel
theorem dX6_init_47 : decode cX6_init 47 = .ok (.putfield 30, 3) := by decide +kernel
theorem dX6_init_50 : decode cX6_init 50 = .ok (.aload_n 0, 1) := by decide +kernel
theorem dX6_init_51 : decode cX6_init 51 = .ok (.new 33, 3) := by decide +kernel
theorem dX6_init_54 : decode cX6_init 54 = .ok (.dup, 1) := by decide +kernel
theorem dX6_init_55 : decode cX6_init 55 = .ok (.invokespecial 35, 3) := by decide +kernel
theorem dX6_init_58 : decode cX6_init 58 = .ok (.putfield 36, 3) := by decide +kernel
theorem dX6_init_61 : decode cX6_init 61 = .ok (.aload_n 0, 1) := by decide +kernel
theorem dX6_init_62 : decode cX6_init 62 = .ok (.new 40, 3) := by decide +kernel
theorem dX6_init_65 : decode cX6_init 65 = .ok (.dup, 1) := by decide +kernel
theorem dX6_init_66 : decode cX6_init 66 = .ok (.invokespecial 42, 3) := by decide +kernel
theorem dX6_init_69 : decode cX6_init 69 = .ok (.putfield 43, 3) := by decide +kernel
theorem dX6_init_72 : decode cX6_init 72 = .ok (.aload_n 0, 1) := by decide +kernel
theorem dX6_init_73 : decode cX6_init 73 = .ok (.new 47, 3) := by decide +kernel
theorem dX6_init_76 : decode cX6_init 76 = .ok (.dup, 1) := by decide +kernel
theorem dX6_init_77 : decode cX6_init 77 = .ok (.invokespecial 49, 3) := by decide +kernel
theorem dX6_init_80 : decode cX6_init 80 = .ok (.putfield 50, 3) := by decide +kernel
theorem dX6_init_83 : decode cX6_init 83 = .ok (.aload_n 0, 1) := by decide +kernel
theorem dX6_init_84 : decode cX6_init 84 = .ok (.new 54, 3) := by decide +kernel
theorem dX6_init_87 : decode cX6_init 87 = .ok (.dup, 1) := by decide +kernel
theorem dX6_init_88 : decode cX6_init 88 = .ok (.invokespecial 56, 3) := by decide +kernel
theorem dX6_init_91 : decode cX6_init 91 = .ok (.putfield 57, 3) := by decide +kernel
theorem dX6_init_94 : decode cX6_init 94 = .ok (.aload_n 0, 1) := by decide +kernel
theorem dX6_init_95 : decode cX6_init 95 = .ok (.iconst 0, 1) := by decide +kernel
theorem dX6_init_96 : decode cX6_init 96 = .ok (.putfield 61, 3) := by decide +kernel
theorem dX6_init_99 : decode cX6_init 99 = .ok (.return_, 1) := by decide +kernel
theorem dX6_feed_0 : decode cX6_feed 0 = .ok (.aload_n 0, 1) := by decide +kernel
theorem dX6_feed_1 : decode cX6_feed 1 = .ok (.getfield 13, 3) := by decide +kernel
theorem dX6_feed_4 : decode cX6_feed 4 = .ok (.bipush 20, 2) := by decide +kernel
theorem dX6_feed_6 : decode cX6_feed 6 = .ok (.iadd, 1) := by decide +kernel
theorem dX6_feed_7 : decode cX6_feed 7 = .ok (.sipush 700, 3) := by decide +kernel
theorem dX6_feed_10 : decode cX6_feed 10 = .ok (.if_icmp .le 5, 3) := by decide +kernel
theorem dX6_feed_13 : decode cX6_feed 13 = .ok (.iconst (-1), 1) := by decide +kernel
theorem dX6_feed_14 : decode cX6_feed 14 = .ok (.ireturn, 1) := by decide +kernel
theorem dX6_feed_15 : decode cX6_feed 15 = .ok (.aload_n 0, 1) := by decide +kernel
theorem dX6_feed_16 : decode cX6_feed 16 = .ok (.iload_n 1, 1) := by decide +kernel
theorem dX6_feed_17 : decode cX6_feed 17 = .ok (.invokevirtual 65, 3) := by decide +kernel
theorem dX6_feed_20 : decode cX6_feed 20 = .ok (.aload_n 0, 1) := by decide +kernel
theorem dX6_feed_21 : decode cX6_feed 21 = .ok (.iload_n 2, 1) := by decide +kernel
theorem dX6_feed_22 : decode cX6_feed 22 = .ok (.invokevirtual 65, 3) := by decide +kernel
theorem dX6_feed_25 : decode cX6_feed 25 = .ok (.aload_n 0, 1) := by decide +kernel
theorem dX6_feed_26 : decode cX6_feed 26 = .ok (.iload_n 3, 1) := by decide +kernel
theorem dX6_feed_27 : decode cX6_feed 27 = .ok (.invokevirtual 65, 3) := by decide +kernel
theorem dX6_feed_30 : decode cX6_feed 30 = .ok (.aload_n 0, 1) := by decide +kernel
theorem dX6_feed_31 : decode cX6_feed 31 = .ok (.iload 4, 2) := by decide +kernel
theorem dX6_feed_33 : decode cX6_feed 33 = .ok (.invokevirtual 65, 3) := by decide +kernel
theorem dX6_feed_36 : decode cX6_feed 36 = .ok (.aload_n 0, 1) := by decide +kernel
theorem dX6_feed_37 : decode cX6_feed 37 = .ok (.iload 5, 2) := by decide +kernel
theorem dX6_feed_39 : decode cX6_feed 39 = .ok (.invokevirtual 65, 3) := by decide +kernel
theorem dX6_feed_42 : decode cX6_feed 42 = .ok (.aload_n 0, 1) := by decide +kernel
theorem dX6_feed_43 : decode cX6_feed 43 = .ok (.getfield 13, 3) := by decide +kernel
theorem dX6_feed_46 : decode cX6_feed 46 = .ok (.ireturn, 1) := by decide +kernel
theorem dX6_putBytes_0 : decode cX6_putBytes 0 = .ok (.bipush 24, 2) := by decide +kernel
theorem dX6_putBytes_2 : decode cX6_putBytes 2 = .ok (.istore_n 2, 1) := by decide +kernel
theorem dX6_putBytes_3 : decode cX6_putBytes 3 = .ok (.iload_n 2, 1) := by decide +kernel
theorem dX6_putBytes_4 : decode cX6_putBytes 4 = .ok (.ifCond .lt 45, 3) := by decide +kernel
theorem dX6_putBytes_7 : decode cX6_putBytes 7 = .ok (.aload_n 0, 1) := by decide +kernel
theorem dX6_putBytes_8 : decode cX6_putBytes 8 = .ok (.getfield 13, 3) := by decide +kernel
theorem dX6_putBytes_11 : decode cX6_putBytes 11 = .ok (.sipush 700, 3) := by decide +kernel
theorem dX6_putBytes_14 : decode cX6_putBytes 14 = .ok (.if_icmp .ge 35, 3) := by decide +kernel
theorem dX6_putBytes_17 : decode cX6_putBytes 17 = .ok (.aload_n 0, 1) := by decide +kernel
theorem dX6_putBytes_18 : decode cX6_putBytes 18 = .ok (.getfield 9, 3) := by decide +kernel
theorem dX6_putBytes_21 : decode cX6_putBytes 21 = .ok (.aload_n 0, 1) := by decide +kernel
theorem dX6_putBytes_22 : decode cX6_putBytes 22 = .ok (.getfield 13, 3) := by decide +kernel
theorem dX6_putBytes_25 : decode cX6_putBytes 25 = .ok (.iload_n 1, 1) := by decide +kernel
theorem dX6_putBytes_26 : decode cX6_putBytes 26 = .ok (.iload_n 2, 1) := by decide +kernel
theorem dX6_putBytes_27 : decode cX6_putBytes 27 = .ok (.ishr, 1) := by decide +kernel
theorem dX6_putBytes_28 : decode cX6_putBytes 28 = .ok (.sipush 255, 3) := by decide +kernel
theorem dX6_putBytes_31 : decode cX6_putBytes 31 = .ok (.iand, 1) := by decide +kernel
theorem dX6_putBytes_32 : decode cX6_putBytes 32 = .ok (.iastore, 1) := by decide +kernel
theorem dX6_putBytes_33 : decode cX6_putBytes 33 = .ok (.aload_n 0, 1) := by decide +kernel
theorem dX6_putBytes_34 : decode cX6_putBytes 34 = .ok (.dup, 1) := by decide +kernel
theorem dX6_putBytes_35 : decode cX6_putBytes 35 = .ok (.getfield 13, 3) := by decide +kernel
theorem dX6_putBytes_38 : decode cX6_putBytes 38 = .ok (.iconst 1, 1) := by decide +kernel
theorem dX6_putBytes_39 : decode cX6_putBytes 39 = .ok (.iadd, 1) := by decide +kernel
theorem dX6_putBytes_40 : decode cX6_putBytes 40 = .ok (.putfield 13, 3) := by decide +kernel
theorem dX6_putBytes_43 : decode cX6_putBytes 43 = .ok (.iinc 2 (-8), 3) := by decide +kernel
theorem dX6_putBytes_46 : decode cX6_putBytes 46 = .ok (.goto (-43), 3) := by decide +kernel
theorem dX6_putBytes_49 : decode cX6_putBytes 49 = .ok (.return_, 1) := by decide +kernel
theorem dX6_text_0 : decode cX6_text 0 = .ok (.iload_n 1, 1) := by decide +kernel
theorem dX6_text_1 : decode cX6_text 1 = .ok (.ifCond .lt 11, 3) := by decide +kernel
theorem dX6_text_4 : decode cX6_text 4 = .ok (.iload_n 1, 1) := by decide +kernel
theorem dX6_text_5 : decode cX6_text 5 = .ok (.aload_n 0, 1) := by decide +kernel
theorem dX6_text_6 : decode cX6_text 6 = .ok (.getfield 13, 3) := by decide +kernel
theorem dX6_text_9 : decode cX6_text 9 = .ok (.if_icmp .le 6, 3) := by decide +kernel
theorem dX6_text_12 : decode cX6_text 12 = .ok (.bipush (-2), 2) := by decide +kernel
theorem dX6_text_14 : decode cX6_text 14 = .ok (.ireturn, 1) := by decide +kernel
theorem dX6_text_15 : decode cX6_text 15 = .ok (.new 69, 3) := by decide +kernel
theorem dX6_text_18 : decode cX6_text 18 = .ok (.dup, 1) := by decide +kernel
theorem dX6_text_19 : decode cX6_text 19 = .ok (.aload_n 0, 1) := by decide +kernel
theorem dX6_text_20 : decode cX6_text 20 = .ok (.getfield 9, 3) := by decide +kernel
theorem dX6_text_23 : decode cX6_text 23 = .ok (.iload_n 1, 1) := by decide +kernel
theorem dX6_text_24 : decode cX6_text 24 = .ok (.invokespecial 71, 3) := by decide +kernel
theorem dX6_text_27 : decode cX6_text 27 = .ok (.astore_n 2, 1) := by decide +kernel
theorem dX6_text_28 : decode cX6_text 28 = .ok (.aload_n 2, 1) := by decide +kernel
theorem dX6_text_29 : decode cX6_text 29 = .ok (.invokevirtual 74, 3) := by decide +kernel
theorem dX6_text_32 : decode cX6_text 32 = .ok (.aload_n 0, 1) := by decide +kernel
theorem dX6_text_33 : decode cX6_text 33 = .ok (.iconst 0, 1) := by decide +kernel
theorem dX6_text_34 : decode cX6_text 34 = .ok (.putfield 13, 3) := by decide +kernel
theorem dX6_text_37 : decode cX6_text 37 = .ok (.aload_n 0, 1) := by decide +kernel
theorem dX6_text_38 : decode cX6_text 38 = .ok (.aload_n 2, 1) := by decide +kernel
theorem dX6_text_39 : decode cX6_text 39 = .ok (.getfield 77, 3) := by decide +kernel
theorem dX6_text_42 : decode cX6_text 42 = .ok (.putfield 17, 3) := by decide +kernel
theorem dX6_text_45 : decode cX6_text 45 = .ok (.aload_n 0, 1) := by decide +kernel
theorem dX6_text_46 : decode cX6_text 46 = .ok (.aload_n 2, 1) := by decide +kernel
theorem dX6_text_47 : decode cX6_text 47 = .ok (.getfield 80, 3) := by decide +kernel
theorem dX6_text_50 : decode cX6_text 50 = .ok (.putfield 20, 3) := by decide +kernel
theorem dX6_text_53 : decode cX6_text 53 = .ok (.aload_n 0, 1) := by decide +kernel
theorem dX6_text_54 : decode cX6_text 54 = .ok (.getfield 17, 3) := by decide +kernel
theorem dX6_text_57 : decode cX6_text 57 = .ok (.ifCond .eq 5, 3) := by decide +kernel
theorem dX6_text_60 : decode cX6_text 60 = .ok (.iconst (-1), 1) := by decide +kernel
theorem dX6_text_61 : decode cX6_text 61 = .ok (.ireturn, 1) := by decide +kernel
theorem dX6_text_62 : decode cX6_text 62 = .ok (.aload_n 0, 1) := by decide +kernel
theorem dX6_text_63 : decode cX6_text 63 = .ok (.aload_n 2, 1) := by decide +kernel
theorem dX6_text_64 : decode cX6_text 64 = .ok (.getfield 83, 3) := by decide +kernel
theorem dX6_text_67 : decode cX6_text 67 = .ok (.putfield 26, 3) := by decide +kernel
theorem dX6_text_70 : decode cX6_text 70 = .ok (.aload_n 0, 1) := by decide +kernel
theorem dX6_text_71 : decode cX6_text 71 = .ok (.iconst 0, 1) := by decide +kernel
theorem dX6_text_72 : decode cX6_text 72 = .ok (.putfield 61, 3) := by decide +kernel
theorem dX6_text_75 : decode cX6_text 75 = .ok (.aload_n 0, 1) := by decide +kernel
theorem dX6_text_76 : decode cX6_text 76 = .ok (.getfield 50, 3) := by decide +kernel
theorem dX6_text_79 : decode cX6_text 79 = .ok (.iconst 0, 1) := by decide +kernel
theorem dX6_text_80 : decode cX6_text 80 = .ok (.putfield 84, 3) := by decide +kernel
theorem dX6_text_83 : decode cX6_text 83 = .ok (.aload_n 2, 1) := by decide +kernel
theorem dX6_text_84 : decode cX6_text 84 = .ok (.getfield 87, 3) := by decide +kernel
theorem dX6_text_87 : decode cX6_text 87 = .ok (.ireturn, 1) := by decide +kernel
theorem dX6_fault_0 : decode cX6_fault 0 = .ok (.iload_n 1, 1) := by decide +kernel
theorem dX6_fault_1 : decode cX6_fault 1 = .ok (.ifCond .ne 8, 3) := by decide +kernel
theorem dX6_fault_4 : decode cX6_fault 4 = .ok (.aload_n 0, 1) := by decide +kernel
theorem dX6_fault_5 : decode cX6_fault 5 = .ok (.getfield 17, 3) := by decide +kernel
theorem dX6_fault_8 : decode cX6_fault 8 = .ok (.ireturn, 1) := by decide +kernel
theorem dX6_fault_9 : decode cX6_fault 9 = .ok (.iload_n 1, 1) := by decide +kernel
theorem dX6_fault_10 : decode cX6_fault 10 = .ok (.iconst 1, 1) := by decide +kernel
theorem dX6_fault_11 : decode cX6_fault 11 = .ok (.if_icmp .ne 10, 3) := by decide +kernel
theorem dX6_fault_14 : decode cX6_fault 14 = .ok (.aload_n 0, 1) := by decide +kernel
theorem dX6_fault_15 : decode cX6_fault 15 = .ok (.getfield 20, 3) := by decide +kernel
theorem dX6_fault_18 : decode cX6_fault 18 = .ok (.goto 4, 3) := by decide +kernel
theorem dX6_fault_21 : decode cX6_fault 21 = .ok (.iconst (-1), 1) := by decide +kernel
theorem dX6_fault_22 : decode cX6_fault 22 = .ok (.ireturn, 1) := by decide +kernel
theorem dX6_named_0 : decode cX6_named 0 = .ok (.aload_n 0, 1) := by decide +kernel
theorem dX6_named_1 : decode cX6_named 1 = .ok (.getfield 26, 3) := by decide +kernel
theorem dX6_named_4 : decode cX6_named 4 = .ok (.iload_n 1, 1) := by decide +kernel
theorem dX6_named_5 : decode cX6_named 5 = .ok (.invokevirtual 90, 3) := by decide +kernel
theorem dX6_named_8 : decode cX6_named 8 = .ok (.ireturn, 1) := by decide +kernel
theorem dX6_tune_0 : decode cX6_tune 0 = .ok (.aload_n 0, 1) := by decide +kernel
theorem dX6_tune_1 : decode cX6_tune 1 = .ok (.getfield 26, 3) := by decide +kernel
theorem dX6_tune_4 : decode cX6_tune 4 = .ok (.iload_n 1, 1) := by decide +kernel
theorem dX6_tune_5 : decode cX6_tune 5 = .ok (.invokevirtual 94, 3) := by decide +kernel
theorem dX6_tune_8 : decode cX6_tune 8 = .ok (.ifCond .eq 18, 3) := by decide +kernel
theorem dX6_tune_11 : decode cX6_tune 11 = .ok (.iload_n 2, 1) := by decide +kernel
theorem dX6_tune_12 : decode cX6_tune 12 = .ok (.ifCond .eq 16, 3) := by decide +kernel
theorem dX6_tune_15 : decode cX6_tune 15 = .ok (.aload_n 0, 1) := by decide +kernel
theorem dX6_tune_16 : decode cX6_tune 16 = .ok (.getfield 26, 3) := by decide +kernel
theorem dX6_tune_19 : decode cX6_tune 19 = .ok (.iload_n 2, 1) := by decide +kernel
theorem dX6_tune_20 : decode cX6_tune 20 = .ok (.invokevirtual 98, 3) := by decide +kernel
theorem dX6_tune_23 : decode cX6_tune 23 = .ok (.ifCond .ne 5, 3) := by decide +kernel
theorem dX6_tune_26 : decode cX6_tune 26 = .ok (.iconst (-1), 1) := by decide +kernel
theorem dX6_tune_27 : decode cX6_tune 27 = .ok (.ireturn, 1) := by decide +kernel
theorem dX6_tune_28 : decode cX6_tune 28 = .ok (.aload_n 0, 1) := by decide +kernel
theorem dX6_tune_29 : decode cX6_tune 29 = .ok (.getfield 50, 3) := by decide +kernel
theorem dX6_tune_32 : decode cX6_tune 32 = .ok (.aload_n 0, 1) := by decide +kernel
theorem dX6_tune_33 : decode cX6_tune 33 = .ok (.getfield 26, 3) := by decide +kernel
theorem dX6_tune_36 : decode cX6_tune 36 = .ok (.invokevirtual 101, 3) := by decide +kernel
theorem dX6_tune_39 : decode cX6_tune 39 = .ok (.aload_n 0, 1) := by decide +kernel
theorem dX6_tune_40 : decode cX6_tune 40 = .ok (.getfield 26, 3) := by decide +kernel
theorem dX6_tune_43 : decode cX6_tune 43 = .ok (.getfield 105, 3) := by decide +kernel
theorem dX6_tune_46 : decode cX6_tune 46 = .ok (.iload_n 1, 1) := by decide +kernel
theorem dX6_tune_47 : decode cX6_tune 47 = .ok (.iaload, 1) := by decide +kernel
theorem dX6_tune_48 : decode cX6_tune 48 = .ok (.istore_n 3, 1) := by decide +kernel
theorem dX6_tune_49 : decode cX6_tune 49 = .ok (.aload_n 0, 1) := by decide +kernel
theorem dX6_tune_50 : decode cX6_tune 50 = .ok (.getfield 26, 3) := by decide +kernel
theorem dX6_tune_53 : decode cX6_tune 53 = .ok (.getfield 105, 3) := by decide +kernel
theorem dX6_tune_56 : decode cX6_tune 56 = .ok (.iload_n 1, 1) := by decide +kernel
theorem dX6_tune_57 : decode cX6_tune 57 = .ok (.iload_n 2, 1) := by decide +kernel
theorem dX6_tune_58 : decode cX6_tune 58 = .ok (.iastore, 1) := by decide +kernel
theorem dX6_tune_59 : decode cX6_tune 59 = .ok (.iload_n 3, 1) := by decide +kernel
theorem dX6_tune_60 : decode cX6_tune 60 = .ok (.ireturn, 1) := by decide +kernel
theorem dX6_block_0 : decode cX6_block 0 = .ok (.aload_n 0, 1) := by decide +kernel
theorem dX6_block_1 : decode cX6_block 1 = .ok (.getfield 26, 3) := by decide +kernel
theorem dX6_block_4 : decode cX6_block 4 = .ok (.iload_n 1, 1) := by decide +kernel
theorem dX6_block_5 : decode cX6_block 5 = .ok (.invokevirtual 98, 3) := by decide +kernel
theorem dX6_block_8 : decode cX6_block 8 = .ok (.ifCond .ne 5, 3) := by decide +kernel
theorem dX6_block_11 : decode cX6_block 11 = .ok (.iconst (-1), 1) := by decide +kernel
theorem dX6_block_12 : decode cX6_block 12 = .ok (.ireturn, 1) := by decide +kernel
theorem dX6_block_13 : decode cX6_block 13 = .ok (.aload_n 0, 1) := by decide +kernel
theorem dX6_block_14 : decode cX6_block 14 = .ok (.getfield 50, 3) := by decide +kernel
theorem dX6_block_17 : decode cX6_block 17 = .ok (.aload_n 0, 1) := by decide +kernel
theorem dX6_block_18 : decode cX6_block 18 = .ok (.getfield 26, 3) := by decide +kernel
theorem dX6_block_21 : decode cX6_block 21 = .ok (.invokevirtual 101, 3) := by decide +kernel
theorem dX6_block_24 : decode cX6_block 24 = .ok (.aload_n 0, 1) := by decide +kernel
theorem dX6_block_25 : decode cX6_block 25 = .ok (.getfield 26, 3) := by decide +kernel
theorem dX6_block_28 : decode cX6_block 28 = .ok (.dup, 1) := by decide +kernel
theorem dX6_block_29 : decode cX6_block 29 = .ok (.getfield 108, 3) := by decide +kernel
theorem dX6_block_32 : decode cX6_block 32 = .ok (.lconst 1, 1) := by decide +kernel
theorem dX6_block_33 : decode cX6_block 33 = .ok (.iload_n 1, 1) := by decide +kernel
theorem dX6_block_34 : decode cX6_block 34 = .ok (.lshl, 1) := by decide +kernel
theorem dX6_block_35 : decode cX6_block 35 = .ok (.lxor, 1) := by decide +kernel
theorem dX6_block_36 : decode cX6_block 36 = .ok (.putfield 108, 3) := by decide +kernel
theorem dX6_block_39 : decode cX6_block 39 = .ok (.aload_n 0, 1) := by decide +kernel
theorem dX6_block_40 : decode cX6_block 40 = .ok (.getfield 26, 3) := by decide +kernel
theorem dX6_block_43 : decode cX6_block 43 = .ok (.iload_n 1, 1) := by decide +kernel
theorem dX6_block_44 : decode cX6_block 44 = .ok (.invokevirtual 112, 3) := by decide +kernel
theorem dX6_block_47 : decode cX6_block 47 = .ok (.ifCond .eq 7, 3) := by decide +kernel
theorem dX6_block_50 : decode cX6_block 50 = .ok (.iconst 1, 1) := by decide +kernel
theorem dX6_block_51 : decode cX6_block 51 = .ok (.goto 4, 3) := by decide +kernel
theorem dX6_block_54 : decode cX6_block 54 = .ok (.iconst 0, 1) := by decide +kernel
theorem dX6_block_55 : decode cX6_block 55 = .ok (.ireturn, 1) := by decide +kernel
theorem dX6_power_0 : decode cX6_power 0 = .ok (.aload_n 0, 1) := by decide +kernel
theorem dX6_power_1 : decode cX6_power 1 = .ok (.getfield 26, 3) := by decide +kernel
theorem dX6_power_4 : decode cX6_power 4 = .ok (.iload_n 1, 1) := by decide +kernel
theorem dX6_power_5 : decode cX6_power 5 = .ok (.invokevirtual 94, 3) := by decide +kernel
theorem dX6_power_8 : decode cX6_power 8 = .ok (.ifCond .eq 13, 3) := by decide +kernel
theorem dX6_power_11 : decode cX6_power 11 = .ok (.iload_n 2, 1) := by decide +kernel
theorem dX6_power_12 : decode cX6_power 12 = .ok (.ifCond .lt 9, 3) := by decide +kernel
theorem dX6_power_15 : decode cX6_power 15 = .ok (.iload_n 2, 1) := by decide +kernel
theorem dX6_power_16 : decode cX6_power 16 = .ok (.bipush 30, 2) := by decide +kernel
theorem dX6_power_18 : decode cX6_power 18 = .ok (.if_icmp .le 5, 3) := by decide +kernel
theorem dX6_power_21 : decode cX6_power 21 = .ok (.iconst (-1), 1) := by decide +kernel
theorem dX6_power_22 : decode cX6_power 22 = .ok (.ireturn, 1) := by decide +kernel
theorem dX6_power_23 : decode cX6_power 23 = .ok (.aload_n 0, 1) := by decide +kernel
theorem dX6_power_24 : decode cX6_power 24 = .ok (.getfield 50, 3) := by decide +kernel
theorem dX6_power_27 : decode cX6_power 27 = .ok (.aload_n 0, 1) := by decide +kernel
theorem dX6_power_28 : decode cX6_power 28 = .ok (.getfield 26, 3) := by decide +kernel
theorem dX6_power_31 : decode cX6_power 31 = .ok (.invokevirtual 101, 3) := by decide +kernel
theorem dX6_power_34 : decode cX6_power 34 = .ok (.aload_n 0, 1) := by decide +kernel
theorem dX6_power_35 : decode cX6_power 35 = .ok (.getfield 26, 3) := by decide +kernel
theorem dX6_power_38 : decode cX6_power 38 = .ok (.getfield 115, 3) := by decide +kernel
theorem dX6_power_41 : decode cX6_power 41 = .ok (.iload_n 1, 1) := by decide +kernel
theorem dX6_power_42 : decode cX6_power 42 = .ok (.iaload, 1) := by decide +kernel
theorem dX6_power_43 : decode cX6_power 43 = .ok (.istore_n 3, 1) := by decide +kernel
theorem dX6_power_44 : decode cX6_power 44 = .ok (.aload_n 0, 1) := by decide +kernel
theorem dX6_power_45 : decode cX6_power 45 = .ok (.getfield 26, 3) := by decide +kernel
theorem dX6_power_48 : decode cX6_power 48 = .ok (.getfield 115, 3) := by decide +kernel
theorem dX6_power_51 : decode cX6_power 51 = .ok (.iload_n 1, 1) := by decide +kernel
theorem dX6_power_52 : decode cX6_power 52 = .ok (.iload_n 2, 1) := by decide +kernel
theorem dX6_power_53 : decode cX6_power 53 = .ok (.iastore, 1) := by decide +kernel
theorem dX6_power_54 : decode cX6_power 54 = .ok (.iload_n 3, 1) := by decide +kernel
theorem dX6_power_55 : decode cX6_power 55 = .ok (.ireturn, 1) := by decide +kernel
theorem dX6_slots_0 : decode cX6_slots 0 = .ok (.aload_n 0, 1) := by decide +kernel
theorem dX6_slots_1 : decode cX6_slots 1 = .ok (.getfield 26, 3) := by decide +kernel
theorem dX6_slots_4 : decode cX6_slots 4 = .ok (.iload_n 1, 1) := by decide +kernel
theorem dX6_slots_5 : decode cX6_slots 5 = .ok (.invokevirtual 94, 3) := by decide +kernel
theorem dX6_slots_8 : decode cX6_slots 8 = .ok (.ifCond .eq 15, 3) := by decide +kernel
theorem dX6_slots_11 : decode cX6_slots 11 = .ok (.iload_n 2, 1) := by decide +kernel
theorem dX6_slots_12 : decode cX6_slots 12 = .ok (.iconst 1, 1) := by decide +kernel
theorem dX6_slots_13 : decode cX6_slots 13 = .ok (.if_icmp .lt 10, 3) := by decide +kernel
theorem dX6_slots_16 : decode cX6_slots 16 = .ok (.iload_n 2, 1) := by decide +kernel
theorem dX6_slots_17 : decode cX6_slots 17 = .ok (.sipush 255, 3) := by decide +kernel
theorem dX6_slots_20 : decode cX6_slots 20 = .ok (.if_icmp .le 5, 3) := by decide +kernel
theorem dX6_slots_23 : decode cX6_slots 23 = .ok (.iconst (-1), 1) := by decide +kernel
theorem dX6_slots_24 : decode cX6_slots 24 = .ok (.ireturn, 1) := by decide +kernel
theorem dX6_slots_25 : decode cX6_slots 25 = .ok (.aload_n 0, 1) := by decide +kernel
theorem dX6_slots_26 : decode cX6_slots 26 = .ok (.getfield 50, 3) := by decide +kernel
theorem dX6_slots_29 : decode cX6_slots 29 = .ok (.aload_n 0, 1) := by decide +kernel
theorem dX6_slots_30 : decode cX6_slots 30 = .ok (.getfield 26, 3) := by decide +kernel
theorem dX6_slots_33 : decode cX6_slots 33 = .ok (.invokevirtual 101, 3) := by decide +kernel
theorem dX6_slots_36 : decode cX6_slots 36 = .ok (.aload_n 0, 1) := by decide +kernel
theorem dX6_slots_37 : decode cX6_slots 37 = .ok (.getfield 26, 3) := by decide +kernel
theorem dX6_slots_40 : decode cX6_slots 40 = .ok (.getfield 118, 3) := by decide +kernel
theorem dX6_slots_43 : decode cX6_slots 43 = .ok (.iload_n 1, 1) := by decide +kernel
theorem dX6_slots_44 : decode cX6_slots 44 = .ok (.iaload, 1) := by decide +kernel
theorem dX6_slots_45 : decode cX6_slots 45 = .ok (.istore_n 3, 1) := by decide +kernel
theorem dX6_slots_46 : decode cX6_slots 46 = .ok (.aload_n 0, 1) := by decide +kernel
theorem dX6_slots_47 : decode cX6_slots 47 = .ok (.getfield 26, 3) := by decide +kernel
theorem dX6_slots_50 : decode cX6_slots 50 = .ok (.getfield 118, 3) := by decide +kernel
theorem dX6_slots_53 : decode cX6_slots 53 = .ok (.iload_n 1, 1) := by decide +kernel
theorem dX6_slots_54 : decode cX6_slots 54 = .ok (.iload_n 2, 1) := by decide +kernel
theorem dX6_slots_55 : decode cX6_slots 55 = .ok (.iastore, 1) := by decide +kernel
theorem dX6_slots_56 : decode cX6_slots 56 = .ok (.iload_n 3, 1) := by decide +kernel
theorem dX6_slots_57 : decode cX6_slots 57 = .ok (.ireturn, 1) := by decide +kernel
theorem dX6_complete_0 : decode cX6_complete 0 = .ok (.aload_n 0, 1) := by decide +kernel
theorem dX6_complete_1 : decode cX6_complete 1 = .ok (.invokevirtual 121, 3) := by decide +kernel
theorem dX6_complete_4 : decode cX6_complete 4 = .ok (.istore_n 1, 1) := by decide +kernel
theorem dX6_complete_5 : decode cX6_complete 5 = .ok (.iload_n 1, 1) := by decide +kernel
theorem dX6_complete_6 : decode cX6_complete 6 = .ok (.ifCond .eq 5, 3) := by decide +kernel
theorem dX6_complete_9 : decode cX6_complete 9 = .ok (.iload_n 1, 1) := by decide +kernel
theorem dX6_complete_10 : decode cX6_complete 10 = .ok (.ireturn, 1) := by decide +kernel
theorem dX6_complete_11 : decode cX6_complete 11 = .ok (.aload_n 0, 1) := by decide +kernel
theorem dX6_complete_12 : decode cX6_complete 12 = .ok (.getfield 43, 3) := by decide +kernel
theorem dX6_complete_15 : decode cX6_complete 15 = .ok (.getfield 125, 3) := by decide +kernel
theorem dX6_complete_18 : decode cX6_complete 18 = .ok (.ifCond .le 7, 3) := by decide +kernel
theorem dX6_complete_21 : decode cX6_complete 21 = .ok (.aload_n 0, 1) := by decide +kernel
theorem dX6_complete_22 : decode cX6_complete 22 = .ok (.invokevirtual 128, 3) := by decide +kernel
theorem dX6_complete_25 : decode cX6_complete 25 = .ok (.aload_n 0, 1) := by decide +kernel
theorem dX6_complete_26 : decode cX6_complete 26 = .ok (.getfield 43, 3) := by decide +kernel
theorem dX6_complete_29 : decode cX6_complete 29 = .ok (.getfield 125, 3) := by decide +kernel
theorem dX6_complete_32 : decode cX6_complete 32 = .ok (.ireturn, 1) := by decide +kernel
theorem dX6_mend_0 : decode cX6_mend 0 = .ok (.aload_n 0, 1) := by decide +kernel
theorem dX6_mend_1 : decode cX6_mend 1 = .ok (.invokevirtual 131, 3) := by decide +kernel
theorem dX6_mend_4 : decode cX6_mend 4 = .ok (.istore_n 1, 1) := by decide +kernel
theorem dX6_mend_5 : decode cX6_mend 5 = .ok (.iload_n 1, 1) := by decide +kernel
theorem dX6_mend_6 : decode cX6_mend 6 = .ok (.ifCond .le 7, 3) := by decide +kernel
theorem dX6_mend_9 : decode cX6_mend 9 = .ok (.aload_n 0, 1) := by decide +kernel
theorem dX6_mend_10 : decode cX6_mend 10 = .ok (.invokevirtual 128, 3) := by decide +kernel
theorem dX6_mend_13 : decode cX6_mend 13 = .ok (.iload_n 1, 1) := by decide +kernel
theorem dX6_mend_14 : decode cX6_mend 14 = .ok (.ireturn, 1) := by decide +kernel
theorem dX6_adoptTrial_0 : decode cX6_adoptTrial 0 = .ok (.aload_n 0, 1) := by decide +kernel
theorem dX6_adoptTrial_1 : decode cX6_adoptTrial 1 = .ok (.getfield 50, 3) := by decide +kernel
theorem dX6_adoptTrial_4 : decode cX6_adoptTrial 4 = .ok (.aload_n 0, 1) := by decide +kernel
theorem dX6_adoptTrial_5 : decode cX6_adoptTrial 5 = .ok (.getfield 26, 3) := by decide +kernel
theorem dX6_adoptTrial_8 : decode cX6_adoptTrial 8 = .ok (.invokevirtual 101, 3) := by decide +kernel
theorem dX6_adoptTrial_11 : decode cX6_adoptTrial 11 = .ok (.aload_n 0, 1) := by decide +kernel
theorem dX6_adoptTrial_12 : decode cX6_adoptTrial 12 = .ok (.getfield 26, 3) := by decide +kernel
theorem dX6_adoptTrial_15 : decode cX6_adoptTrial 15 = .ok (.aload_n 0, 1) := by decide +kernel
theorem dX6_adoptTrial_16 : decode cX6_adoptTrial 16 = .ok (.getfield 30, 3) := by decide +kernel
theorem dX6_adoptTrial_19 : decode cX6_adoptTrial 19 = .ok (.invokevirtual 134, 3) := by decide +kernel
theorem dX6_adoptTrial_22 : decode cX6_adoptTrial 22 = .ok (.return_, 1) := by decide +kernel
theorem dX6_undo_0 : decode cX6_undo 0 = .ok (.aload_n 0, 1) := by decide +kernel
theorem dX6_undo_1 : decode cX6_undo 1 = .ok (.getfield 50, 3) := by decide +kernel
theorem dX6_undo_4 : decode cX6_undo 4 = .ok (.aload_n 0, 1) := by decide +kernel
theorem dX6_undo_5 : decode cX6_undo 5 = .ok (.getfield 26, 3) := by decide +kernel
theorem dX6_undo_8 : decode cX6_undo 8 = .ok (.invokevirtual 137, 3) := by decide +kernel
theorem dX6_undo_11 : decode cX6_undo 11 = .ok (.ifCond .eq 13, 3) := by decide +kernel
theorem dX6_undo_14 : decode cX6_undo 14 = .ok (.aload_n 0, 1) := by decide +kernel
theorem dX6_undo_15 : decode cX6_undo 15 = .ok (.getfield 50, 3) := by decide +kernel
theorem dX6_undo_18 : decode cX6_undo 18 = .ok (.getfield 84, 3) := by decide +kernel
theorem dX6_undo_21 : decode cX6_undo 21 = .ok (.goto 4, 3) := by decide +kernel
theorem dX6_undo_24 : decode cX6_undo 24 = .ok (.iconst (-1), 1) := by decide +kernel
theorem dX6_undo_25 : decode cX6_undo 25 = .ok (.ireturn, 1) := by decide +kernel
theorem dX6_keep_0 : decode cX6_keep 0 = .ok (.aload_n 0, 1) := by decide +kernel
theorem dX6_keep_1 : decode cX6_keep 1 = .ok (.getfield 57, 3) := by decide +kernel
theorem dX6_keep_4 : decode cX6_keep 4 = .ok (.aload_n 0, 1) := by decide +kernel
theorem dX6_keep_5 : decode cX6_keep 5 = .ok (.getfield 26, 3) := by decide +kernel
theorem dX6_keep_8 : decode cX6_keep 8 = .ok (.invokevirtual 141, 3) := by decide +kernel
theorem dX6_keep_11 : decode cX6_keep 11 = .ok (.aload_n 0, 1) := by decide +kernel
theorem dX6_keep_12 : decode cX6_keep 12 = .ok (.iconst 1, 1) := by decide +kernel
theorem dX6_keep_13 : decode cX6_keep 13 = .ok (.putfield 61, 3) := by decide +kernel
theorem dX6_keep_16 : decode cX6_keep 16 = .ok (.aload_n 0, 1) := by decide +kernel
theorem dX6_keep_17 : decode cX6_keep 17 = .ok (.getfield 26, 3) := by decide +kernel
theorem dX6_keep_20 : decode cX6_keep 20 = .ok (.invokevirtual 144, 3) := by decide +kernel
theorem dX6_keep_23 : decode cX6_keep 23 = .ok (.invokestatic 147, 3) := by decide +kernel
theorem dX6_keep_26 : decode cX6_keep 26 = .ok (.ireturn, 1) := by decide +kernel
theorem dX6_back_0 : decode cX6_back 0 = .ok (.aload_n 0, 1) := by decide +kernel
theorem dX6_back_1 : decode cX6_back 1 = .ok (.getfield 61, 3) := by decide +kernel
theorem dX6_back_4 : decode cX6_back 4 = .ok (.ifCond .ne 5, 3) := by decide +kernel
theorem dX6_back_7 : decode cX6_back 7 = .ok (.iconst (-1), 1) := by decide +kernel
theorem dX6_back_8 : decode cX6_back 8 = .ok (.ireturn, 1) := by decide +kernel
theorem dX6_back_9 : decode cX6_back 9 = .ok (.aload_n 0, 1) := by decide +kernel
theorem dX6_back_10 : decode cX6_back 10 = .ok (.getfield 57, 3) := by decide +kernel
theorem dX6_back_13 : decode cX6_back 13 = .ok (.aload_n 0, 1) := by decide +kernel
theorem dX6_back_14 : decode cX6_back 14 = .ok (.getfield 26, 3) := by decide +kernel
theorem dX6_back_17 : decode cX6_back 17 = .ok (.invokevirtual 152, 3) := by decide +kernel
theorem dX6_back_20 : decode cX6_back 20 = .ok (.aload_n 0, 1) := by decide +kernel
theorem dX6_back_21 : decode cX6_back 21 = .ok (.getfield 50, 3) := by decide +kernel
theorem dX6_back_24 : decode cX6_back 24 = .ok (.iconst 0, 1) := by decide +kernel
theorem dX6_back_25 : decode cX6_back 25 = .ok (.putfield 84, 3) := by decide +kernel
theorem dX6_back_28 : decode cX6_back 28 = .ok (.aload_n 0, 1) := by decide +kernel
theorem dX6_back_29 : decode cX6_back 29 = .ok (.getfield 26, 3) := by decide +kernel
theorem dX6_back_32 : decode cX6_back 32 = .ok (.invokevirtual 144, 3) := by decide +kernel
theorem dX6_back_35 : decode cX6_back 35 = .ok (.invokestatic 147, 3) := by decide +kernel
theorem dX6_back_38 : decode cX6_back 38 = .ok (.ireturn, 1) := by decide +kernel
theorem dX6_user_0 : decode cX6_user 0 = .ok (.aload_n 0, 1) := by decide +kernel
theorem dX6_user_1 : decode cX6_user 1 = .ok (.getfield 26, 3) := by decide +kernel
theorem dX6_user_4 : decode cX6_user 4 = .ok (.iload_n 1, 1) := by decide +kernel
theorem dX6_user_5 : decode cX6_user 5 = .ok (.invokevirtual 94, 3) := by decide +kernel
theorem dX6_user_8 : decode cX6_user 8 = .ok (.ifCond .ne 13, 3) := by decide +kernel
theorem dX6_user_11 : decode cX6_user 11 = .ok (.new 155, 3) := by decide +kernel
theorem dX6_user_14 : decode cX6_user 14 = .ok (.dup, 1) := by decide +kernel
theorem dX6_user_15 : decode cX6_user 15 = .ok (.ldc 157, 2) := by decide +kernel
theorem dX6_user_17 : decode cX6_user 17 = .ok (.invokespecial 159, 3) := by decide +kernel
theorem dX6_user_20 : decode cX6_user 20 = .ok (.athrow, 1) := by decide +kernel
theorem dX6_user_21 : decode cX6_user 21 = .ok (.iload_n 2, 1) := by decide +kernel
theorem dX6_user_22 : decode cX6_user 22 = .ok (.tableswitch 119 0 6 #[42, 52, 62, 72, 82, 92, 109], 42) := by decide +kernel
theorem dX6_user_64 : decode cX6_user 64 = .ok (.aload_n 0, 1) := by decide +kernel
theorem dX6_user_65 : decode cX6_user 65 = .ok (.getfield 26, 3) := by decide +kernel
theorem dX6_user_68 : decode cX6_user 68 = .ok (.getfield 162, 3) := by decide +kernel
theorem dX6_user_71 : decode cX6_user 71 = .ok (.iload_n 1, 1) := by decide +kernel
theorem dX6_user_72 : decode cX6_user 72 = .ok (.iaload, 1) := by decide +kernel
theorem dX6_user_73 : decode cX6_user 73 = .ok (.ireturn, 1) := by decide +kernel
theorem dX6_user_74 : decode cX6_user 74 = .ok (.aload_n 0, 1) := by decide +kernel
theorem dX6_user_75 : decode cX6_user 75 = .ok (.getfield 26, 3) := by decide +kernel
theorem dX6_user_78 : decode cX6_user 78 = .ok (.getfield 115, 3) := by decide +kernel
theorem dX6_user_81 : decode cX6_user 81 = .ok (.iload_n 1, 1) := by decide +kernel
theorem dX6_user_82 : decode cX6_user 82 = .ok (.iaload, 1) := by decide +kernel
theorem dX6_user_83 : decode cX6_user 83 = .ok (.ireturn, 1) := by decide +kernel
theorem dX6_user_84 : decode cX6_user 84 = .ok (.aload_n 0, 1) := by decide +kernel
theorem dX6_user_85 : decode cX6_user 85 = .ok (.getfield 26, 3) := by decide +kernel
theorem dX6_user_88 : decode cX6_user 88 = .ok (.getfield 165, 3) := by decide +kernel
theorem dX6_user_91 : decode cX6_user 91 = .ok (.iload_n 1, 1) := by decide +kernel
theorem dX6_user_92 : decode cX6_user 92 = .ok (.iaload, 1) := by decide +kernel
theorem dX6_user_93 : decode cX6_user 93 = .ok (.ireturn, 1) := by decide +kernel
theorem dX6_user_94 : decode cX6_user 94 = .ok (.aload_n 0, 1) := by decide +kernel
theorem dX6_user_95 : decode cX6_user 95 = .ok (.getfield 26, 3) := by decide +kernel
theorem dX6_user_98 : decode cX6_user 98 = .ok (.getfield 168, 3) := by decide +kernel
theorem dX6_user_101 : decode cX6_user 101 = .ok (.iload_n 1, 1) := by decide +kernel
theorem dX6_user_102 : decode cX6_user 102 = .ok (.iaload, 1) := by decide +kernel
theorem dX6_user_103 : decode cX6_user 103 = .ok (.ireturn, 1) := by decide +kernel
theorem dX6_user_104 : decode cX6_user 104 = .ok (.aload_n 0, 1) := by decide +kernel
theorem dX6_user_105 : decode cX6_user 105 = .ok (.getfield 26, 3) := by decide +kernel
theorem dX6_user_108 : decode cX6_user 108 = .ok (.getfield 105, 3) := by decide +kernel
theorem dX6_user_111 : decode cX6_user 111 = .ok (.iload_n 1, 1) := by decide +kernel
theorem dX6_user_112 : decode cX6_user 112 = .ok (.iaload, 1) := by decide +kernel
theorem dX6_user_113 : decode cX6_user 113 = .ok (.ireturn, 1) := by decide +kernel
theorem dX6_user_114 : decode cX6_user 114 = .ok (.aload_n 0, 1) := by decide +kernel
theorem dX6_user_115 : decode cX6_user 115 = .ok (.getfield 26, 3) := by decide +kernel
theorem dX6_user_118 : decode cX6_user 118 = .ok (.iload_n 1, 1) := by decide +kernel
theorem dX6_user_119 : decode cX6_user 119 = .ok (.invokevirtual 171, 3) := by decide +kernel
theorem dX6_user_122 : decode cX6_user 122 = .ok (.ifCond .eq 7, 3) := by decide +kernel
theorem dX6_user_125 : decode cX6_user 125 = .ok (.iconst 1, 1) := by decide +kernel
theorem dX6_user_126 : decode cX6_user 126 = .ok (.goto 4, 3) := by decide +kernel
theorem dX6_user_129 : decode cX6_user 129 = .ok (.iconst 0, 1) := by decide +kernel
theorem dX6_user_130 : decode cX6_user 130 = .ok (.ireturn, 1) := by decide +kernel
theorem dX6_user_131 : decode cX6_user 131 = .ok (.aload_n 0, 1) := by decide +kernel
theorem dX6_user_132 : decode cX6_user 132 = .ok (.getfield 26, 3) := by decide +kernel
theorem dX6_user_135 : decode cX6_user 135 = .ok (.getfield 118, 3) := by decide +kernel
theorem dX6_user_138 : decode cX6_user 138 = .ok (.iload_n 1, 1) := by decide +kernel
theorem dX6_user_139 : decode cX6_user 139 = .ok (.iaload, 1) := by decide +kernel
theorem dX6_user_140 : decode cX6_user 140 = .ok (.ireturn, 1) := by decide +kernel
theorem dX6_user_141 : decode cX6_user 141 = .ok (.new 174, 3) := by decide +kernel
theorem dX6_user_144 : decode cX6_user 144 = .ok (.dup, 1) := by decide +kernel
theorem dX6_user_145 : decode cX6_user 145 = .ok (.ldc 176, 2) := by decide +kernel
theorem dX6_user_147 : decode cX6_user 147 = .ok (.invokespecial 178, 3) := by decide +kernel
theorem dX6_user_150 : decode cX6_user 150 = .ok (.athrow, 1) := by decide +kernel
theorem dX6_blocked_0 : decode cX6_blocked 0 = .ok (.aload_n 0, 1) := by decide +kernel
theorem dX6_blocked_1 : decode cX6_blocked 1 = .ok (.getfield 26, 3) := by decide +kernel
theorem dX6_blocked_4 : decode cX6_blocked 4 = .ok (.iload_n 1, 1) := by decide +kernel
theorem dX6_blocked_5 : decode cX6_blocked 5 = .ok (.invokevirtual 98, 3) := by decide +kernel
theorem dX6_blocked_8 : decode cX6_blocked 8 = .ok (.ifCond .ne 5, 3) := by decide +kernel
theorem dX6_blocked_11 : decode cX6_blocked 11 = .ok (.iconst (-1), 1) := by decide +kernel
theorem dX6_blocked_12 : decode cX6_blocked 12 = .ok (.ireturn, 1) := by decide +kernel
theorem dX6_blocked_13 : decode cX6_blocked 13 = .ok (.aload_n 0, 1) := by decide +kernel
theorem dX6_blocked_14 : decode cX6_blocked 14 = .ok (.getfield 26, 3) := by decide +kernel
theorem dX6_blocked_17 : decode cX6_blocked 17 = .ok (.iload_n 1, 1) := by decide +kernel
theorem dX6_blocked_18 : decode cX6_blocked 18 = .ok (.invokevirtual 112, 3) := by decide +kernel
theorem dX6_blocked_21 : decode cX6_blocked 21 = .ok (.ifCond .eq 7, 3) := by decide +kernel
theorem dX6_blocked_24 : decode cX6_blocked 24 = .ok (.iconst 1, 1) := by decide +kernel
theorem dX6_blocked_25 : decode cX6_blocked 25 = .ok (.goto 4, 3) := by decide +kernel
theorem dX6_blocked_28 : decode cX6_blocked 28 = .ok (.iconst 0, 1) := by decide +kernel
theorem dX6_blocked_29 : decode cX6_blocked 29 = .ok (.ireturn, 1) := by decide +kernel
theorem dX6_linked_0 : decode cX6_linked 0 = .ok (.iload_n 1, 1) := by decide +kernel
theorem dX6_linked_1 : decode cX6_linked 1 = .ok (.ifCond .lt 22, 3) := by decide +kernel
theorem dX6_linked_4 : decode cX6_linked 4 = .ok (.iload_n 1, 1) := by decide +kernel
theorem dX6_linked_5 : decode cX6_linked 5 = .ok (.iconst 3, 1) := by decide +kernel
theorem dX6_linked_6 : decode cX6_linked 6 = .ok (.if_icmp .ge 17, 3) := by decide +kernel
theorem dX6_linked_9 : decode cX6_linked 9 = .ok (.iload_n 2, 1) := by decide +kernel
theorem dX6_linked_10 : decode cX6_linked 10 = .ok (.ifCond .lt 13, 3) := by decide +kernel
theorem dX6_linked_13 : decode cX6_linked 13 = .ok (.iload_n 2, 1) := by decide +kernel
theorem dX6_linked_14 : decode cX6_linked 14 = .ok (.iconst 3, 1) := by decide +kernel
theorem dX6_linked_15 : decode cX6_linked 15 = .ok (.if_icmp .ge 8, 3) := by decide +kernel
theorem dX6_linked_18 : decode cX6_linked 18 = .ok (.iload_n 1, 1) := by decide +kernel
theorem dX6_linked_19 : decode cX6_linked 19 = .ok (.iload_n 2, 1) := by decide +kernel
theorem dX6_linked_20 : decode cX6_linked 20 = .ok (.if_icmp .ne 5, 3) := by decide +kernel
theorem dX6_linked_23 : decode cX6_linked 23 = .ok (.iconst (-1), 1) := by decide +kernel
theorem dX6_linked_24 : decode cX6_linked 24 = .ok (.ireturn, 1) := by decide +kernel
theorem dX6_linked_25 : decode cX6_linked 25 = .ok (.aload_n 0, 1) := by decide +kernel
theorem dX6_linked_26 : decode cX6_linked 26 = .ok (.getfield 26, 3) := by decide +kernel
theorem dX6_linked_29 : decode cX6_linked 29 = .ok (.getfield 179, 3) := by decide +kernel
theorem dX6_linked_32 : decode cX6_linked 32 = .ok (.iload_n 1, 1) := by decide +kernel
theorem dX6_linked_33 : decode cX6_linked 33 = .ok (.iconst 3, 1) := by decide +kernel
theorem dX6_linked_34 : decode cX6_linked 34 = .ok (.imul, 1) := by decide +kernel
theorem dX6_linked_35 : decode cX6_linked 35 = .ok (.iload_n 2, 1) := by decide +kernel
theorem dX6_linked_36 : decode cX6_linked 36 = .ok (.iadd, 1) := by decide +kernel
theorem dX6_linked_37 : decode cX6_linked 37 = .ok (.iaload, 1) := by decide +kernel
theorem dX6_linked_38 : decode cX6_linked 38 = .ok (.istore_n 3, 1) := by decide +kernel
theorem dX6_linked_39 : decode cX6_linked 39 = .ok (.iload_n 3, 1) := by decide +kernel
theorem dX6_linked_40 : decode cX6_linked 40 = .ok (.sipush 1000, 3) := by decide +kernel
theorem dX6_linked_43 : decode cX6_linked 43 = .ok (.if_icmp .ne 8, 3) := by decide +kernel
theorem dX6_linked_46 : decode cX6_linked 46 = .ok (.bipush (-2), 2) := by decide +kernel
theorem dX6_linked_48 : decode cX6_linked 48 = .ok (.goto 4, 3) := by decide +kernel
theorem dX6_linked_51 : decode cX6_linked 51 = .ok (.iload_n 3, 1) := by decide +kernel
theorem dX6_linked_52 : decode cX6_linked 52 = .ok (.ireturn, 1) := by decide +kernel
theorem dX6_count_0 : decode cX6_count 0 = .ok (.iload_n 1, 1) := by decide +kernel
theorem dX6_count_1 : decode cX6_count 1 = .ok (.tableswitch 126 0 8 #[51, 59, 67, 75, 83, 91, 102, 113, 121], 51) := by decide +kernel
theorem dX6_count_52 : decode cX6_count 52 = .ok (.aload_n 0, 1) := by decide +kernel
theorem dX6_count_53 : decode cX6_count 53 = .ok (.getfield 26, 3) := by decide +kernel
theorem dX6_count_56 : decode cX6_count 56 = .ok (.getfield 182, 3) := by decide +kernel
theorem dX6_count_59 : decode cX6_count 59 = .ok (.ireturn, 1) := by decide +kernel
theorem dX6_count_60 : decode cX6_count 60 = .ok (.aload_n 0, 1) := by decide +kernel
theorem dX6_count_61 : decode cX6_count 61 = .ok (.getfield 26, 3) := by decide +kernel
theorem dX6_count_64 : decode cX6_count 64 = .ok (.getfield 185, 3) := by decide +kernel
theorem dX6_count_67 : decode cX6_count 67 = .ok (.ireturn, 1) := by decide +kernel
theorem dX6_count_68 : decode cX6_count 68 = .ok (.aload_n 0, 1) := by decide +kernel
theorem dX6_count_69 : decode cX6_count 69 = .ok (.getfield 26, 3) := by decide +kernel
theorem dX6_count_72 : decode cX6_count 72 = .ok (.getfield 188, 3) := by decide +kernel
theorem dX6_count_75 : decode cX6_count 75 = .ok (.ireturn, 1) := by decide +kernel
theorem dX6_count_76 : decode cX6_count 76 = .ok (.aload_n 0, 1) := by decide +kernel
theorem dX6_count_77 : decode cX6_count 77 = .ok (.getfield 26, 3) := by decide +kernel
theorem dX6_count_80 : decode cX6_count 80 = .ok (.getfield 191, 3) := by decide +kernel
theorem dX6_count_83 : decode cX6_count 83 = .ok (.ireturn, 1) := by decide +kernel
theorem dX6_count_84 : decode cX6_count 84 = .ok (.aload_n 0, 1) := by decide +kernel
theorem dX6_count_85 : decode cX6_count 85 = .ok (.getfield 26, 3) := by decide +kernel
theorem dX6_count_88 : decode cX6_count 88 = .ok (.getfield 194, 3) := by decide +kernel
theorem dX6_count_91 : decode cX6_count 91 = .ok (.ireturn, 1) := by decide +kernel
theorem dX6_count_92 : decode cX6_count 92 = .ok (.aload_n 0, 1) := by decide +kernel
theorem dX6_count_93 : decode cX6_count 93 = .ok (.getfield 26, 3) := by decide +kernel
theorem dX6_count_96 : decode cX6_count 96 = .ok (.getfield 108, 3) := by decide +kernel
theorem dX6_count_99 : decode cX6_count 99 = .ok (.invokestatic 197, 3) := by decide +kernel
theorem dX6_count_102 : decode cX6_count 102 = .ok (.ireturn, 1) := by decide +kernel
theorem dX6_count_103 : decode cX6_count 103 = .ok (.aload_n 0, 1) := by decide +kernel
theorem dX6_count_104 : decode cX6_count 104 = .ok (.getfield 26, 3) := by decide +kernel
theorem dX6_count_107 : decode cX6_count 107 = .ok (.invokevirtual 144, 3) := by decide +kernel
theorem dX6_count_110 : decode cX6_count 110 = .ok (.invokestatic 147, 3) := by decide +kernel
theorem dX6_count_113 : decode cX6_count 113 = .ok (.ireturn, 1) := by decide +kernel
theorem dX6_count_114 : decode cX6_count 114 = .ok (.aload_n 0, 1) := by decide +kernel
theorem dX6_count_115 : decode cX6_count 115 = .ok (.getfield 50, 3) := by decide +kernel
theorem dX6_count_118 : decode cX6_count 118 = .ok (.getfield 84, 3) := by decide +kernel
theorem dX6_count_121 : decode cX6_count 121 = .ok (.ireturn, 1) := by decide +kernel
theorem dX6_count_122 : decode cX6_count 122 = .ok (.aload_n 0, 1) := by decide +kernel
theorem dX6_count_123 : decode cX6_count 123 = .ok (.getfield 13, 3) := by decide +kernel
theorem dX6_count_126 : decode cX6_count 126 = .ok (.ireturn, 1) := by decide +kernel
theorem dX6_count_127 : decode cX6_count 127 = .ok (.iconst (-1), 1) := by decide +kernel
theorem dX6_count_128 : decode cX6_count 128 = .ok (.ireturn, 1) := by decide +kernel
theorem dX6_products_0 : decode cX6_products 0 = .ok (.aload_n 0, 1) := by decide +kernel
theorem dX6_products_1 : decode cX6_products 1 = .ok (.getfield 36, 3) := by decide +kernel
theorem dX6_products_4 : decode cX6_products 4 = .ok (.aload_n 0, 1) := by decide +kernel
theorem dX6_products_5 : decode cX6_products 5 = .ok (.getfield 26, 3) := by decide +kernel
theorem dX6_products_8 : decode cX6_products 8 = .ok (.invokevirtual 202, 3) := by decide +kernel
theorem dX6_products_11 : decode cX6_products 11 = .ok (.iload_n 1, 1) := by decide +kernel
theorem dX6_products_12 : decode cX6_products 12 = .ok (.tableswitch 66 0 3 #[32, 40, 50, 58], 32) := by decide +kernel
theorem dX6_products_44 : decode cX6_products 44 = .ok (.aload_n 0, 1) := by decide +kernel
theorem dX6_products_45 : decode cX6_products 45 = .ok (.getfield 36, 3) := by decide +kernel
theorem dX6_products_48 : decode cX6_products 48 = .ok (.getfield 205, 3) := by decide +kernel
theorem dX6_products_51 : decode cX6_products 51 = .ok (.ireturn, 1) := by decide +kernel
theorem dX6_products_52 : decode cX6_products 52 = .ok (.aload_n 0, 1) := by decide +kernel
theorem dX6_products_53 : decode cX6_products 53 = .ok (.getfield 36, 3) := by decide +kernel
theorem dX6_products_56 : decode cX6_products 56 = .ok (.iconst (-1), 1) := by decide +kernel
theorem dX6_products_57 : decode cX6_products 57 = .ok (.iconst 1, 1) := by decide +kernel
theorem dX6_products_58 : decode cX6_products 58 = .ok (.invokevirtual 206, 3) := by decide +kernel
theorem dX6_products_61 : decode cX6_products 61 = .ok (.ireturn, 1) := by decide +kernel
theorem dX6_products_62 : decode cX6_products 62 = .ok (.aload_n 0, 1) := by decide +kernel
theorem dX6_products_63 : decode cX6_products 63 = .ok (.getfield 36, 3) := by decide +kernel
theorem dX6_products_66 : decode cX6_products 66 = .ok (.getfield 210, 3) := by decide +kernel
theorem dX6_products_69 : decode cX6_products 69 = .ok (.ireturn, 1) := by decide +kernel
theorem dX6_products_70 : decode cX6_products 70 = .ok (.aload_n 0, 1) := by decide +kernel
theorem dX6_products_71 : decode cX6_products 71 = .ok (.getfield 26, 3) := by decide +kernel
theorem dX6_products_74 : decode cX6_products 74 = .ok (.invokevirtual 213, 3) := by decide +kernel
theorem dX6_products_77 : decode cX6_products 77 = .ok (.ireturn, 1) := by decide +kernel
theorem dX6_products_78 : decode cX6_products 78 = .ok (.iconst (-1), 1) := by decide +kernel
theorem dX6_products_79 : decode cX6_products 79 = .ok (.ireturn, 1) := by decide +kernel
theorem dX6_product_0 : decode cX6_product 0 = .ok (.aload_n 0, 1) := by decide +kernel
theorem dX6_product_1 : decode cX6_product 1 = .ok (.getfield 36, 3) := by decide +kernel
theorem dX6_product_4 : decode cX6_product 4 = .ok (.aload_n 0, 1) := by decide +kernel
theorem dX6_product_5 : decode cX6_product 5 = .ok (.getfield 26, 3) := by decide +kernel
theorem dX6_product_8 : decode cX6_product 8 = .ok (.invokevirtual 202, 3) := by decide +kernel
theorem dX6_product_11 : decode cX6_product 11 = .ok (.iload_n 1, 1) := by decide +kernel
theorem dX6_product_12 : decode cX6_product 12 = .ok (.ifCond .lt 24, 3) := by decide +kernel
theorem dX6_product_15 : decode cX6_product 15 = .ok (.iload_n 1, 1) := by decide +kernel
theorem dX6_product_16 : decode cX6_product 16 = .ok (.aload_n 0, 1) := by decide +kernel
theorem dX6_product_17 : decode cX6_product 17 = .ok (.getfield 36, 3) := by decide +kernel
theorem dX6_product_20 : decode cX6_product 20 = .ok (.getfield 205, 3) := by decide +kernel
theorem dX6_product_23 : decode cX6_product 23 = .ok (.if_icmp .ge 13, 3) := by decide +kernel
theorem dX6_product_26 : decode cX6_product 26 = .ok (.iload_n 2, 1) := by decide +kernel
theorem dX6_product_27 : decode cX6_product 27 = .ok (.ifCond .lt 9, 3) := by decide +kernel
theorem dX6_product_30 : decode cX6_product 30 = .ok (.iload_n 2, 1) := by decide +kernel
theorem dX6_product_31 : decode cX6_product 31 = .ok (.bipush 6, 2) := by decide +kernel
theorem dX6_product_33 : decode cX6_product 33 = .ok (.if_icmp .le 7, 3) := by decide +kernel
theorem dX6_product_36 : decode cX6_product 36 = .ok (.sipush (-1000), 3) := by decide +kernel
theorem dX6_product_39 : decode cX6_product 39 = .ok (.ireturn, 1) := by decide +kernel
theorem dX6_product_40 : decode cX6_product 40 = .ok (.aload_n 0, 1) := by decide +kernel
theorem dX6_product_41 : decode cX6_product 41 = .ok (.getfield 36, 3) := by decide +kernel
theorem dX6_product_44 : decode cX6_product 44 = .ok (.getfield 216, 3) := by decide +kernel
theorem dX6_product_47 : decode cX6_product 47 = .ok (.iload_n 2, 1) := by decide +kernel
theorem dX6_product_48 : decode cX6_product 48 = .ok (.aaload, 1) := by decide +kernel
theorem dX6_product_49 : decode cX6_product 49 = .ok (.iload_n 1, 1) := by decide +kernel
theorem dX6_product_50 : decode cX6_product 50 = .ok (.iaload, 1) := by decide +kernel
theorem dX6_product_51 : decode cX6_product 51 = .ok (.ireturn, 1) := by decide +kernel
theorem dX6_bySort_0 : decode cX6_bySort 0 = .ok (.iload_n 1, 1) := by decide +kernel
theorem dX6_bySort_1 : decode cX6_bySort 1 = .ok (.ifCond .lt 18, 3) := by decide +kernel
theorem dX6_bySort_4 : decode cX6_bySort 4 = .ok (.iload_n 1, 1) := by decide +kernel
theorem dX6_bySort_5 : decode cX6_bySort 5 = .ok (.bipush 6, 2) := by decide +kernel
theorem dX6_bySort_7 : decode cX6_bySort 7 = .ok (.if_icmp .ge 12, 3) := by decide +kernel
theorem dX6_bySort_10 : decode cX6_bySort 10 = .ok (.iload_n 2, 1) := by decide +kernel
theorem dX6_bySort_11 : decode cX6_bySort 11 = .ok (.ifCond .lt 8, 3) := by decide +kernel
theorem dX6_bySort_14 : decode cX6_bySort 14 = .ok (.iload_n 2, 1) := by decide +kernel
theorem dX6_bySort_15 : decode cX6_bySort 15 = .ok (.iconst 2, 1) := by decide +kernel
theorem dX6_bySort_16 : decode cX6_bySort 16 = .ok (.if_icmp .le 5, 3) := by decide +kernel
theorem dX6_bySort_19 : decode cX6_bySort 19 = .ok (.iconst (-1), 1) := by decide +kernel
theorem dX6_bySort_20 : decode cX6_bySort 20 = .ok (.ireturn, 1) := by decide +kernel
theorem dX6_bySort_21 : decode cX6_bySort 21 = .ok (.aload_n 0, 1) := by decide +kernel
theorem dX6_bySort_22 : decode cX6_bySort 22 = .ok (.getfield 36, 3) := by decide +kernel
theorem dX6_bySort_25 : decode cX6_bySort 25 = .ok (.aload_n 0, 1) := by decide +kernel
theorem dX6_bySort_26 : decode cX6_bySort 26 = .ok (.getfield 26, 3) := by decide +kernel
theorem dX6_bySort_29 : decode cX6_bySort 29 = .ok (.invokevirtual 202, 3) := by decide +kernel
theorem dX6_bySort_32 : decode cX6_bySort 32 = .ok (.aload_n 0, 1) := by decide +kernel
theorem dX6_bySort_33 : decode cX6_bySort 33 = .ok (.getfield 36, 3) := by decide +kernel
theorem dX6_bySort_36 : decode cX6_bySort 36 = .ok (.iload_n 1, 1) := by decide +kernel
theorem dX6_bySort_37 : decode cX6_bySort 37 = .ok (.iload_n 2, 1) := by decide +kernel
theorem dX6_bySort_38 : decode cX6_bySort 38 = .ok (.invokevirtual 206, 3) := by decide +kernel
theorem dX6_bySort_41 : decode cX6_bySort 41 = .ok (.ireturn, 1) := by decide +kernel
theorem dX6_hits_0 : decode cX6_hits 0 = .ok (.aload_n 0, 1) := by decide +kernel
theorem dX6_hits_1 : decode cX6_hits 1 = .ok (.getfield 26, 3) := by decide +kernel
theorem dX6_hits_4 : decode cX6_hits 4 = .ok (.iload_n 1, 1) := by decide +kernel
theorem dX6_hits_5 : decode cX6_hits 5 = .ok (.invokevirtual 94, 3) := by decide +kernel
theorem dX6_hits_8 : decode cX6_hits 8 = .ok (.ifCond .ne 5, 3) := by decide +kernel
theorem dX6_hits_11 : decode cX6_hits 11 = .ok (.iconst (-1), 1) := by decide +kernel
theorem dX6_hits_12 : decode cX6_hits 12 = .ok (.ireturn, 1) := by decide +kernel
theorem dX6_hits_13 : decode cX6_hits 13 = .ok (.aload_n 0, 1) := by decide +kernel
theorem dX6_hits_14 : decode cX6_hits 14 = .ok (.getfield 26, 3) := by decide +kernel
theorem dX6_hits_17 : decode cX6_hits 17 = .ok (.getfield 105, 3) := by decide +kernel
theorem dX6_hits_20 : decode cX6_hits 20 = .ok (.iload_n 1, 1) := by decide +kernel
theorem dX6_hits_21 : decode cX6_hits 21 = .ok (.iaload, 1) := by decide +kernel
theorem dX6_hits_22 : decode cX6_hits 22 = .ok (.ifCond .ne 6, 3) := by decide +kernel
theorem dX6_hits_25 : decode cX6_hits 25 = .ok (.bipush (-2), 2) := by decide +kernel
theorem dX6_hits_27 : decode cX6_hits 27 = .ok (.ireturn, 1) := by decide +kernel
theorem dX6_hits_28 : decode cX6_hits 28 = .ok (.aload_n 0, 1) := by decide +kernel
theorem dX6_hits_29 : decode cX6_hits 29 = .ok (.getfield 36, 3) := by decide +kernel
theorem dX6_hits_32 : decode cX6_hits 32 = .ok (.aload_n 0, 1) := by decide +kernel
theorem dX6_hits_33 : decode cX6_hits 33 = .ok (.getfield 26, 3) := by decide +kernel
theorem dX6_hits_36 : decode cX6_hits 36 = .ok (.invokevirtual 202, 3) := by decide +kernel
theorem dX6_hits_39 : decode cX6_hits 39 = .ok (.aload_n 0, 1) := by decide +kernel
theorem dX6_hits_40 : decode cX6_hits 40 = .ok (.getfield 36, 3) := by decide +kernel
theorem dX6_hits_43 : decode cX6_hits 43 = .ok (.iload_n 1, 1) := by decide +kernel
theorem dX6_hits_44 : decode cX6_hits 44 = .ok (.invokevirtual 220, 3) := by decide +kernel
theorem dX6_hits_47 : decode cX6_hits 47 = .ok (.ireturn, 1) := by decide +kernel
theorem dX6_hitBy_0 : decode cX6_hitBy 0 = .ok (.aload_n 0, 1) := by decide +kernel
theorem dX6_hitBy_1 : decode cX6_hitBy 1 = .ok (.getfield 26, 3) := by decide +kernel
theorem dX6_hitBy_4 : decode cX6_hitBy 4 = .ok (.iload_n 1, 1) := by decide +kernel
theorem dX6_hitBy_5 : decode cX6_hitBy 5 = .ok (.invokevirtual 94, 3) := by decide +kernel
theorem dX6_hitBy_8 : decode cX6_hitBy 8 = .ok (.ifCond .eq 7, 3) := by decide +kernel
theorem dX6_hitBy_11 : decode cX6_hitBy 11 = .ok (.iload_n 2, 1) := by decide +kernel
theorem dX6_hitBy_12 : decode cX6_hitBy 12 = .ok (.ifCond .ge 5, 3) := by decide +kernel
theorem dX6_hitBy_15 : decode cX6_hitBy 15 = .ok (.iconst (-1), 1) := by decide +kernel
theorem dX6_hitBy_16 : decode cX6_hitBy 16 = .ok (.ireturn, 1) := by decide +kernel
theorem dX6_hitBy_17 : decode cX6_hitBy 17 = .ok (.aload_n 0, 1) := by decide +kernel
theorem dX6_hitBy_18 : decode cX6_hitBy 18 = .ok (.getfield 36, 3) := by decide +kernel
theorem dX6_hitBy_21 : decode cX6_hitBy 21 = .ok (.aload_n 0, 1) := by decide +kernel
theorem dX6_hitBy_22 : decode cX6_hitBy 22 = .ok (.getfield 26, 3) := by decide +kernel
theorem dX6_hitBy_25 : decode cX6_hitBy 25 = .ok (.invokevirtual 202, 3) := by decide +kernel
theorem dX6_hitBy_28 : decode cX6_hitBy 28 = .ok (.aload_n 0, 1) := by decide +kernel
theorem dX6_hitBy_29 : decode cX6_hitBy 29 = .ok (.getfield 36, 3) := by decide +kernel
theorem dX6_hitBy_32 : decode cX6_hitBy 32 = .ok (.iload_n 1, 1) := by decide +kernel
theorem dX6_hitBy_33 : decode cX6_hitBy 33 = .ok (.iload_n 2, 1) := by decide +kernel
theorem dX6_hitBy_34 : decode cX6_hitBy 34 = .ok (.invokevirtual 223, 3) := by decide +kernel
theorem dX6_hitBy_37 : decode cX6_hitBy 37 = .ok (.ireturn, 1) := by decide +kernel
theorem dX6_loudest_0 : decode cX6_loudest 0 = .ok (.aload_n 0, 1) := by decide +kernel
theorem dX6_loudest_1 : decode cX6_loudest 1 = .ok (.getfield 36, 3) := by decide +kernel
theorem dX6_loudest_4 : decode cX6_loudest 4 = .ok (.aload_n 0, 1) := by decide +kernel
theorem dX6_loudest_5 : decode cX6_loudest 5 = .ok (.getfield 26, 3) := by decide +kernel
theorem dX6_loudest_8 : decode cX6_loudest 8 = .ok (.invokevirtual 202, 3) := by decide +kernel
theorem dX6_loudest_11 : decode cX6_loudest 11 = .ok (.aload_n 0, 1) := by decide +kernel
theorem dX6_loudest_12 : decode cX6_loudest 12 = .ok (.getfield 36, 3) := by decide +kernel
theorem dX6_loudest_15 : decode cX6_loudest 15 = .ok (.invokevirtual 226, 3) := by decide +kernel
theorem dX6_loudest_18 : decode cX6_loudest 18 = .ok (.ireturn, 1) := by decide +kernel
theorem dX6_when_0 : decode cX6_when 0 = .ok (.aload_n 0, 1) := by decide +kernel
theorem dX6_when_1 : decode cX6_when 1 = .ok (.getfield 26, 3) := by decide +kernel
theorem dX6_when_4 : decode cX6_when 4 = .ok (.iload_n 1, 1) := by decide +kernel
theorem dX6_when_5 : decode cX6_when 5 = .ok (.invokevirtual 94, 3) := by decide +kernel
theorem dX6_when_8 : decode cX6_when 8 = .ok (.ifCond .ne 5, 3) := by decide +kernel
theorem dX6_when_11 : decode cX6_when 11 = .ok (.iconst (-1), 1) := by decide +kernel
theorem dX6_when_12 : decode cX6_when 12 = .ok (.ireturn, 1) := by decide +kernel
theorem dX6_when_13 : decode cX6_when 13 = .ok (.aload_n 0, 1) := by decide +kernel
theorem dX6_when_14 : decode cX6_when 14 = .ok (.getfield 36, 3) := by decide +kernel
theorem dX6_when_17 : decode cX6_when 17 = .ok (.aload_n 0, 1) := by decide +kernel
theorem dX6_when_18 : decode cX6_when 18 = .ok (.getfield 26, 3) := by decide +kernel
theorem dX6_when_21 : decode cX6_when 21 = .ok (.invokevirtual 202, 3) := by decide +kernel
theorem dX6_when_24 : decode cX6_when 24 = .ok (.aload_n 0, 1) := by decide +kernel
theorem dX6_when_25 : decode cX6_when 25 = .ok (.getfield 36, 3) := by decide +kernel
theorem dX6_when_28 : decode cX6_when 28 = .ok (.iload_n 1, 1) := by decide +kernel
theorem dX6_when_29 : decode cX6_when 29 = .ok (.invokevirtual 229, 3) := by decide +kernel
theorem dX6_when_32 : decode cX6_when 32 = .ok (.aload_n 0, 1) := by decide +kernel
theorem dX6_when_33 : decode cX6_when 33 = .ok (.getfield 26, 3) := by decide +kernel
theorem dX6_when_36 : decode cX6_when 36 = .ok (.getfield 118, 3) := by decide +kernel
theorem dX6_when_39 : decode cX6_when 39 = .ok (.iload_n 1, 1) := by decide +kernel
theorem dX6_when_40 : decode cX6_when 40 = .ok (.iaload, 1) := by decide +kernel
theorem dX6_when_41 : decode cX6_when 41 = .ok (.iand, 1) := by decide +kernel
theorem dX6_when_42 : decode cX6_when 42 = .ok (.ireturn, 1) := by decide +kernel
theorem dX6_clearance_0 : decode cX6_clearance 0 = .ok (.aload_n 0, 1) := by decide +kernel
theorem dX6_clearance_1 : decode cX6_clearance 1 = .ok (.getfield 26, 3) := by decide +kernel
theorem dX6_clearance_4 : decode cX6_clearance 4 = .ok (.iload_n 1, 1) := by decide +kernel
theorem dX6_clearance_5 : decode cX6_clearance 5 = .ok (.invokevirtual 94, 3) := by decide +kernel
theorem dX6_clearance_8 : decode cX6_clearance 8 = .ok (.ifCond .ne 5, 3) := by decide +kernel
theorem dX6_clearance_11 : decode cX6_clearance 11 = .ok (.iconst (-1), 1) := by decide +kernel
theorem dX6_clearance_12 : decode cX6_clearance 12 = .ok (.ireturn, 1) := by decide +kernel
theorem dX6_clearance_13 : decode cX6_clearance 13 = .ok (.aload_n 0, 1) := by decide +kernel
theorem dX6_clearance_14 : decode cX6_clearance 14 = .ok (.getfield 36, 3) := by decide +kernel
theorem dX6_clearance_17 : decode cX6_clearance 17 = .ok (.aload_n 0, 1) := by decide +kernel
theorem dX6_clearance_18 : decode cX6_clearance 18 = .ok (.getfield 26, 3) := by decide +kernel
theorem dX6_clearance_21 : decode cX6_clearance 21 = .ok (.invokevirtual 202, 3) := by decide +kernel
theorem dX6_clearance_24 : decode cX6_clearance 24 = .ok (.aload_n 0, 1) := by decide +kernel
theorem dX6_clearance_25 : decode cX6_clearance 25 = .ok (.getfield 36, 3) := by decide +kernel
theorem dX6_clearance_28 : decode cX6_clearance 28 = .ok (.aload_n 0, 1) := by decide +kernel
theorem dX6_clearance_29 : decode cX6_clearance 29 = .ok (.getfield 26, 3) := by decide +kernel
theorem dX6_clearance_32 : decode cX6_clearance 32 = .ok (.iload_n 1, 1) := by decide +kernel
theorem dX6_clearance_33 : decode cX6_clearance 33 = .ok (.invokevirtual 232, 3) := by decide +kernel
theorem dX6_clearance_36 : decode cX6_clearance 36 = .ok (.ireturn, 1) := by decide +kernel
theorem dX6_worst_0 : decode cX6_worst 0 = .ok (.aload_n 0, 1) := by decide +kernel
theorem dX6_worst_1 : decode cX6_worst 1 = .ok (.getfield 36, 3) := by decide +kernel
theorem dX6_worst_4 : decode cX6_worst 4 = .ok (.aload_n 0, 1) := by decide +kernel
theorem dX6_worst_5 : decode cX6_worst 5 = .ok (.getfield 26, 3) := by decide +kernel
theorem dX6_worst_8 : decode cX6_worst 8 = .ok (.invokevirtual 202, 3) := by decide +kernel
theorem dX6_worst_11 : decode cX6_worst 11 = .ok (.aload_n 0, 1) := by decide +kernel
theorem dX6_worst_12 : decode cX6_worst 12 = .ok (.getfield 36, 3) := by decide +kernel
theorem dX6_worst_15 : decode cX6_worst 15 = .ok (.aload_n 0, 1) := by decide +kernel
theorem dX6_worst_16 : decode cX6_worst 16 = .ok (.getfield 26, 3) := by decide +kernel
theorem dX6_worst_19 : decode cX6_worst 19 = .ok (.getfield 182, 3) := by decide +kernel
theorem dX6_worst_22 : decode cX6_worst 22 = .ok (.invokevirtual 236, 3) := by decide +kernel
theorem dX6_worst_25 : decode cX6_worst 25 = .ok (.ireturn, 1) := by decide +kernel
theorem dX6_rank_0 : decode cX6_rank 0 = .ok (.iload_n 1, 1) := by decide +kernel
theorem dX6_rank_1 : decode cX6_rank 1 = .ok (.ifCond .lt 14, 3) := by decide +kernel
theorem dX6_rank_4 : decode cX6_rank 4 = .ok (.iload_n 1, 1) := by decide +kernel
theorem dX6_rank_5 : decode cX6_rank 5 = .ok (.aload_n 0, 1) := by decide +kernel
theorem dX6_rank_6 : decode cX6_rank 6 = .ok (.getfield 26, 3) := by decide +kernel
theorem dX6_rank_9 : decode cX6_rank 9 = .ok (.getfield 182, 3) := by decide +kernel
theorem dX6_rank_12 : decode cX6_rank 12 = .ok (.if_icmp .lt 5, 3) := by decide +kernel
theorem dX6_rank_15 : decode cX6_rank 15 = .ok (.iconst (-1), 1) := by decide +kernel
theorem dX6_rank_16 : decode cX6_rank 16 = .ok (.ireturn, 1) := by decide +kernel
theorem dX6_rank_17 : decode cX6_rank 17 = .ok (.aload_n 0, 1) := by decide +kernel
theorem dX6_rank_18 : decode cX6_rank 18 = .ok (.getfield 36, 3) := by decide +kernel
theorem dX6_rank_21 : decode cX6_rank 21 = .ok (.aload_n 0, 1) := by decide +kernel
theorem dX6_rank_22 : decode cX6_rank 22 = .ok (.getfield 26, 3) := by decide +kernel
theorem dX6_rank_25 : decode cX6_rank 25 = .ok (.invokevirtual 202, 3) := by decide +kernel
theorem dX6_rank_28 : decode cX6_rank 28 = .ok (.iconst 0, 1) := by decide +kernel
theorem dX6_rank_29 : decode cX6_rank 29 = .ok (.istore_n 2, 1) := by decide +kernel
theorem dX6_rank_30 : decode cX6_rank 30 = .ok (.iload_n 2, 1) := by decide +kernel
theorem dX6_rank_31 : decode cX6_rank 31 = .ok (.aload_n 0, 1) := by decide +kernel
theorem dX6_rank_32 : decode cX6_rank 32 = .ok (.getfield 26, 3) := by decide +kernel
theorem dX6_rank_35 : decode cX6_rank 35 = .ok (.getfield 182, 3) := by decide +kernel
theorem dX6_rank_38 : decode cX6_rank 38 = .ok (.if_icmp .ge 30, 3) := by decide +kernel
theorem dX6_rank_41 : decode cX6_rank 41 = .ok (.aload_n 0, 1) := by decide +kernel
theorem dX6_rank_42 : decode cX6_rank 42 = .ok (.getfield 36, 3) := by decide +kernel
theorem dX6_rank_45 : decode cX6_rank 45 = .ok (.iload_n 2, 1) := by decide +kernel
theorem dX6_rank_46 : decode cX6_rank 46 = .ok (.aload_n 0, 1) := by decide +kernel
theorem dX6_rank_47 : decode cX6_rank 47 = .ok (.getfield 26, 3) := by decide +kernel
theorem dX6_rank_50 : decode cX6_rank 50 = .ok (.getfield 182, 3) := by decide +kernel
theorem dX6_rank_53 : decode cX6_rank 53 = .ok (.invokevirtual 239, 3) := by decide +kernel
theorem dX6_rank_56 : decode cX6_rank 56 = .ok (.iload_n 1, 1) := by decide +kernel
theorem dX6_rank_57 : decode cX6_rank 57 = .ok (.if_icmp .ne 5, 3) := by decide +kernel
theorem dX6_rank_60 : decode cX6_rank 60 = .ok (.iload_n 2, 1) := by decide +kernel
theorem dX6_rank_61 : decode cX6_rank 61 = .ok (.ireturn, 1) := by decide +kernel
theorem dX6_rank_62 : decode cX6_rank 62 = .ok (.iinc 2 1, 3) := by decide +kernel
theorem dX6_rank_65 : decode cX6_rank 65 = .ok (.goto (-35), 3) := by decide +kernel
theorem dX6_rank_68 : decode cX6_rank 68 = .ok (.iconst (-1), 1) := by decide +kernel
theorem dX6_rank_69 : decode cX6_rank 69 = .ok (.ireturn, 1) := by decide +kernel
theorem dX6_crowds_0 : decode cX6_crowds 0 = .ok (.aload_n 0, 1) := by decide +kernel
theorem dX6_crowds_1 : decode cX6_crowds 1 = .ok (.getfield 26, 3) := by decide +kernel
theorem dX6_crowds_4 : decode cX6_crowds 4 = .ok (.iload_n 1, 1) := by decide +kernel
theorem dX6_crowds_5 : decode cX6_crowds 5 = .ok (.invokevirtual 94, 3) := by decide +kernel
theorem dX6_crowds_8 : decode cX6_crowds 8 = .ok (.ifCond .eq 14, 3) := by decide +kernel
theorem dX6_crowds_11 : decode cX6_crowds 11 = .ok (.aload_n 0, 1) := by decide +kernel
theorem dX6_crowds_12 : decode cX6_crowds 12 = .ok (.getfield 26, 3) := by decide +kernel
theorem dX6_crowds_15 : decode cX6_crowds 15 = .ok (.iload_n 1, 1) := by decide +kernel
theorem dX6_crowds_16 : decode cX6_crowds 16 = .ok (.invokevirtual 242, 3) := by decide +kernel
theorem dX6_crowds_19 : decode cX6_crowds 19 = .ok (.goto 4, 3) := by decide +kernel
theorem dX6_crowds_22 : decode cX6_crowds 22 = .ok (.iconst (-1), 1) := by decide +kernel
theorem dX6_crowds_23 : decode cX6_crowds 23 = .ok (.ireturn, 1) := by decide +kernel
theorem dX6_nearest_0 : decode cX6_nearest 0 = .ok (.aload_n 0, 1) := by decide +kernel
theorem dX6_nearest_1 : decode cX6_nearest 1 = .ok (.getfield 26, 3) := by decide +kernel
theorem dX6_nearest_4 : decode cX6_nearest 4 = .ok (.iload_n 1, 1) := by decide +kernel
theorem dX6_nearest_5 : decode cX6_nearest 5 = .ok (.invokevirtual 94, 3) := by decide +kernel
theorem dX6_nearest_8 : decode cX6_nearest 8 = .ok (.ifCond .eq 14, 3) := by decide +kernel
theorem dX6_nearest_11 : decode cX6_nearest 11 = .ok (.aload_n 0, 1) := by decide +kernel
theorem dX6_nearest_12 : decode cX6_nearest 12 = .ok (.getfield 26, 3) := by decide +kernel
theorem dX6_nearest_15 : decode cX6_nearest 15 = .ok (.iload_n 1, 1) := by decide +kernel
theorem dX6_nearest_16 : decode cX6_nearest 16 = .ok (.invokevirtual 245, 3) := by decide +kernel
theorem dX6_nearest_19 : decode cX6_nearest 19 = .ok (.goto 4, 3) := by decide +kernel
theorem dX6_nearest_22 : decode cX6_nearest 22 = .ok (.iconst (-1), 1) := by decide +kernel
theorem dX6_nearest_23 : decode cX6_nearest 23 = .ok (.ireturn, 1) := by decide +kernel
theorem dX6_mostSpace_0 : decode cX6_mostSpace 0 = .ok (.aload_n 0, 1) := by decide +kernel
theorem dX6_mostSpace_1 : decode cX6_mostSpace 1 = .ok (.getfield 30, 3) := by decide +kernel
theorem dX6_mostSpace_4 : decode cX6_mostSpace 4 = .ok (.aload_n 0, 1) := by decide +kernel
theorem dX6_mostSpace_5 : decode cX6_mostSpace 5 = .ok (.getfield 26, 3) := by decide +kernel
theorem dX6_mostSpace_8 : decode cX6_mostSpace 8 = .ok (.invokevirtual 248, 3) := by decide +kernel
theorem dX6_mostSpace_11 : decode cX6_mostSpace 11 = .ok (.bipush 20, 2) := by decide +kernel
theorem dX6_mostSpace_13 : decode cX6_mostSpace 13 = .ok (.istore_n 1, 1) := by decide +kernel
theorem dX6_mostSpace_14 : decode cX6_mostSpace 14 = .ok (.iload_n 1, 1) := by decide +kernel
theorem dX6_mostSpace_15 : decode cX6_mostSpace 15 = .ok (.iconst 1, 1) := by decide +kernel
theorem dX6_mostSpace_16 : decode cX6_mostSpace 16 = .ok (.if_icmp .lt 29, 3) := by decide +kernel
theorem dX6_mostSpace_19 : decode cX6_mostSpace 19 = .ok (.aload_n 0, 1) := by decide +kernel
theorem dX6_mostSpace_20 : decode cX6_mostSpace 20 = .ok (.getfield 30, 3) := by decide +kernel
theorem dX6_mostSpace_23 : decode cX6_mostSpace 23 = .ok (.iload_n 1, 1) := by decide +kernel
theorem dX6_mostSpace_24 : decode cX6_mostSpace 24 = .ok (.putfield 191, 3) := by decide +kernel
theorem dX6_mostSpace_27 : decode cX6_mostSpace 27 = .ok (.aload_n 0, 1) := by decide +kernel
theorem dX6_mostSpace_28 : decode cX6_mostSpace 28 = .ok (.getfield 30, 3) := by decide +kernel
theorem dX6_mostSpace_31 : decode cX6_mostSpace 31 = .ok (.invokevirtual 213, 3) := by decide +kernel
theorem dX6_mostSpace_34 : decode cX6_mostSpace 34 = .ok (.ifCond .ne 5, 3) := by decide +kernel
theorem dX6_mostSpace_37 : decode cX6_mostSpace 37 = .ok (.iload_n 1, 1) := by decide +kernel
theorem dX6_mostSpace_38 : decode cX6_mostSpace 38 = .ok (.ireturn, 1) := by decide +kernel
theorem dX6_mostSpace_39 : decode cX6_mostSpace 39 = .ok (.iinc 1 (-1), 3) := by decide +kernel
theorem dX6_mostSpace_42 : decode cX6_mostSpace 42 = .ok (.goto (-28), 3) := by decide +kernel
theorem dX6_mostSpace_45 : decode cX6_mostSpace 45 = .ok (.bipush (-2), 2) := by decide +kernel
theorem dX6_mostSpace_47 : decode cX6_mostSpace 47 = .ok (.ireturn, 1) := by decide +kernel
theorem dX6_clean_0 : decode cX6_clean 0 = .ok (.aload_n 0, 1) := by decide +kernel
theorem dX6_clean_1 : decode cX6_clean 1 = .ok (.getfield 36, 3) := by decide +kernel
theorem dX6_clean_4 : decode cX6_clean 4 = .ok (.aload_n 0, 1) := by decide +kernel
theorem dX6_clean_5 : decode cX6_clean 5 = .ok (.getfield 26, 3) := by decide +kernel
theorem dX6_clean_8 : decode cX6_clean 8 = .ok (.invokevirtual 251, 3) := by decide +kernel
theorem dX6_clean_11 : decode cX6_clean 11 = .ok (.ifCond .eq 7, 3) := by decide +kernel
theorem dX6_clean_14 : decode cX6_clean 14 = .ok (.iconst 1, 1) := by decide +kernel
theorem dX6_clean_15 : decode cX6_clean 15 = .ok (.goto 4, 3) := by decide +kernel
theorem dX6_clean_18 : decode cX6_clean 18 = .ok (.iconst 0, 1) := by decide +kernel
theorem dX6_clean_19 : decode cX6_clean 19 = .ok (.ireturn, 1) := by decide +kernel
theorem dX6_fits_0 : decode cX6_fits 0 = .ok (.aload_n 0, 1) := by decide +kernel
theorem dX6_fits_1 : decode cX6_fits 1 = .ok (.getfield 26, 3) := by decide +kernel
theorem dX6_fits_4 : decode cX6_fits 4 = .ok (.iload_n 1, 1) := by decide +kernel
theorem dX6_fits_5 : decode cX6_fits 5 = .ok (.invokevirtual 94, 3) := by decide +kernel
theorem dX6_fits_8 : decode cX6_fits 8 = .ok (.ifCond .eq 14, 3) := by decide +kernel
theorem dX6_fits_11 : decode cX6_fits 11 = .ok (.aload_n 0, 1) := by decide +kernel
theorem dX6_fits_12 : decode cX6_fits 12 = .ok (.getfield 26, 3) := by decide +kernel
theorem dX6_fits_15 : decode cX6_fits 15 = .ok (.iload_n 2, 1) := by decide +kernel
theorem dX6_fits_16 : decode cX6_fits 16 = .ok (.invokevirtual 98, 3) := by decide +kernel
theorem dX6_fits_19 : decode cX6_fits 19 = .ok (.ifCond .ne 5, 3) := by decide +kernel
theorem dX6_fits_22 : decode cX6_fits 22 = .ok (.iconst (-1), 1) := by decide +kernel
theorem dX6_fits_23 : decode cX6_fits 23 = .ok (.ireturn, 1) := by decide +kernel
theorem dX6_fits_24 : decode cX6_fits 24 = .ok (.aload_n 0, 1) := by decide +kernel
theorem dX6_fits_25 : decode cX6_fits 25 = .ok (.getfield 30, 3) := by decide +kernel
theorem dX6_fits_28 : decode cX6_fits 28 = .ok (.aload_n 0, 1) := by decide +kernel
theorem dX6_fits_29 : decode cX6_fits 29 = .ok (.getfield 26, 3) := by decide +kernel
theorem dX6_fits_32 : decode cX6_fits 32 = .ok (.invokevirtual 248, 3) := by decide +kernel
theorem dX6_fits_35 : decode cX6_fits 35 = .ok (.aload_n 0, 1) := by decide +kernel
theorem dX6_fits_36 : decode cX6_fits 36 = .ok (.iload_n 1, 1) := by decide +kernel
theorem dX6_fits_37 : decode cX6_fits 37 = .ok (.iload_n 2, 1) := by decide +kernel
theorem dX6_fits_38 : decode cX6_fits 38 = .ok (.invokevirtual 254, 3) := by decide +kernel
theorem dX6_fits_41 : decode cX6_fits 41 = .ok (.ifCond .eq 7, 3) := by decide +kernel
theorem dX6_fits_44 : decode cX6_fits 44 = .ok (.iconst 1, 1) := by decide +kernel
theorem dX6_fits_45 : decode cX6_fits 45 = .ok (.goto 4, 3) := by decide +kernel
theorem dX6_fits_48 : decode cX6_fits 48 = .ok (.iconst 0, 1) := by decide +kernel
theorem dX6_fits_49 : decode cX6_fits 49 = .ok (.ireturn, 1) := by decide +kernel
theorem dX6_fitsOnTrial_0 : decode cX6_fitsOnTrial 0 = .ok (.aload_n 0, 1) := by decide +kernel
theorem dX6_fitsOnTrial_1 : decode cX6_fitsOnTrial 1 = .ok (.getfield 30, 3) := by decide +kernel
theorem dX6_fitsOnTrial_4 : decode cX6_fitsOnTrial 4 = .ok (.getfield 105, 3) := by decide +kernel
theorem dX6_fitsOnTrial_7 : decode cX6_fitsOnTrial 7 = .ok (.iload_n 1, 1) := by decide +kernel
theorem dX6_fitsOnTrial_8 : decode cX6_fitsOnTrial 8 = .ok (.iload_n 2, 1) := by decide +kernel
theorem dX6_fitsOnTrial_9 : decode cX6_fitsOnTrial 9 = .ok (.iastore, 1) := by decide +kernel
theorem dX6_fitsOnTrial_10 : decode cX6_fitsOnTrial 10 = .ok (.aload_n 0, 1) := by decide +kernel
theorem dX6_fitsOnTrial_11 : decode cX6_fitsOnTrial 11 = .ok (.getfield 36, 3) := by decide +kernel
theorem dX6_fitsOnTrial_14 : decode cX6_fitsOnTrial 14 = .ok (.aload_n 0, 1) := by decide +kernel
theorem dX6_fitsOnTrial_15 : decode cX6_fitsOnTrial 15 = .ok (.getfield 30, 3) := by decide +kernel
theorem dX6_fitsOnTrial_18 : decode cX6_fitsOnTrial 18 = .ok (.invokevirtual 251, 3) := by decide +kernel
theorem dX6_fitsOnTrial_21 : decode cX6_fitsOnTrial 21 = .ok (.ireturn, 1) := by decide +kernel
theorem dX6_free_0 : decode cX6_free 0 = .ok (.aload_n 0, 1) := by decide +kernel
theorem dX6_free_1 : decode cX6_free 1 = .ok (.getfield 26, 3) := by decide +kernel
theorem dX6_free_4 : decode cX6_free 4 = .ok (.iload_n 1, 1) := by decide +kernel
theorem dX6_free_5 : decode cX6_free 5 = .ok (.invokevirtual 94, 3) := by decide +kernel
theorem dX6_free_8 : decode cX6_free 8 = .ok (.ifCond .ne 5, 3) := by decide +kernel
theorem dX6_free_11 : decode cX6_free 11 = .ok (.iconst (-1), 1) := by decide +kernel
theorem dX6_free_12 : decode cX6_free 12 = .ok (.ireturn, 1) := by decide +kernel
theorem dX6_free_13 : decode cX6_free 13 = .ok (.aload_n 0, 1) := by decide +kernel
theorem dX6_free_14 : decode cX6_free 14 = .ok (.getfield 30, 3) := by decide +kernel
theorem dX6_free_17 : decode cX6_free 17 = .ok (.aload_n 0, 1) := by decide +kernel
theorem dX6_free_18 : decode cX6_free 18 = .ok (.getfield 26, 3) := by decide +kernel
theorem dX6_free_21 : decode cX6_free 21 = .ok (.invokevirtual 248, 3) := by decide +kernel
theorem dX6_free_24 : decode cX6_free 24 = .ok (.iconst 0, 1) := by decide +kernel
theorem dX6_free_25 : decode cX6_free 25 = .ok (.istore_n 2, 1) := by decide +kernel
theorem dX6_free_26 : decode cX6_free 26 = .ok (.iconst 1, 1) := by decide +kernel
theorem dX6_free_27 : decode cX6_free 27 = .ok (.istore_n 3, 1) := by decide +kernel
theorem dX6_free_28 : decode cX6_free 28 = .ok (.iload_n 3, 1) := by decide +kernel
theorem dX6_free_29 : decode cX6_free 29 = .ok (.aload_n 0, 1) := by decide +kernel
theorem dX6_free_30 : decode cX6_free 30 = .ok (.getfield 26, 3) := by decide +kernel
theorem dX6_free_33 : decode cX6_free 33 = .ok (.getfield 185, 3) := by decide +kernel
theorem dX6_free_36 : decode cX6_free 36 = .ok (.if_icmp .gt 21, 3) := by decide +kernel
theorem dX6_free_39 : decode cX6_free 39 = .ok (.aload_n 0, 1) := by decide +kernel
theorem dX6_free_40 : decode cX6_free 40 = .ok (.iload_n 1, 1) := by decide +kernel
theorem dX6_free_41 : decode cX6_free 41 = .ok (.iload_n 3, 1) := by decide +kernel
theorem dX6_free_42 : decode cX6_free 42 = .ok (.invokevirtual 254, 3) := by decide +kernel
theorem dX6_free_45 : decode cX6_free 45 = .ok (.ifCond .eq 6, 3) := by decide +kernel
theorem dX6_free_48 : decode cX6_free 48 = .ok (.iinc 2 1, 3) := by decide +kernel
theorem dX6_free_51 : decode cX6_free 51 = .ok (.iinc 3 1, 3) := by decide +kernel
theorem dX6_free_54 : decode cX6_free 54 = .ok (.goto (-26), 3) := by decide +kernel
theorem dX6_free_57 : decode cX6_free 57 = .ok (.iload_n 2, 1) := by decide +kernel
theorem dX6_free_58 : decode cX6_free 58 = .ok (.ireturn, 1) := by decide +kernel
theorem dX6_freeAt_0 : decode cX6_freeAt 0 = .ok (.aload_n 0, 1) := by decide +kernel
theorem dX6_freeAt_1 : decode cX6_freeAt 1 = .ok (.getfield 26, 3) := by decide +kernel
theorem dX6_freeAt_4 : decode cX6_freeAt 4 = .ok (.iload_n 1, 1) := by decide +kernel
theorem dX6_freeAt_5 : decode cX6_freeAt 5 = .ok (.invokevirtual 94, 3) := by decide +kernel
theorem dX6_freeAt_8 : decode cX6_freeAt 8 = .ok (.ifCond .eq 7, 3) := by decide +kernel
theorem dX6_freeAt_11 : decode cX6_freeAt 11 = .ok (.iload_n 2, 1) := by decide +kernel
theorem dX6_freeAt_12 : decode cX6_freeAt 12 = .ok (.ifCond .ge 5, 3) := by decide +kernel
theorem dX6_freeAt_15 : decode cX6_freeAt 15 = .ok (.iconst (-1), 1) := by decide +kernel
theorem dX6_freeAt_16 : decode cX6_freeAt 16 = .ok (.ireturn, 1) := by decide +kernel
theorem dX6_freeAt_17 : decode cX6_freeAt 17 = .ok (.aload_n 0, 1) := by decide +kernel
theorem dX6_freeAt_18 : decode cX6_freeAt 18 = .ok (.getfield 30, 3) := by decide +kernel
theorem dX6_freeAt_21 : decode cX6_freeAt 21 = .ok (.aload_n 0, 1) := by decide +kernel
theorem dX6_freeAt_22 : decode cX6_freeAt 22 = .ok (.getfield 26, 3) := by decide +kernel
theorem dX6_freeAt_25 : decode cX6_freeAt 25 = .ok (.invokevirtual 248, 3) := by decide +kernel
theorem dX6_freeAt_28 : decode cX6_freeAt 28 = .ok (.iconst 0, 1) := by decide +kernel
theorem dX6_freeAt_29 : decode cX6_freeAt 29 = .ok (.istore_n 3, 1) := by decide +kernel
theorem dX6_freeAt_30 : decode cX6_freeAt 30 = .ok (.iconst 1, 1) := by decide +kernel
theorem dX6_freeAt_31 : decode cX6_freeAt 31 = .ok (.istore 4, 2) := by decide +kernel
theorem dX6_freeAt_33 : decode cX6_freeAt 33 = .ok (.iload 4, 2) := by decide +kernel
theorem dX6_freeAt_35 : decode cX6_freeAt 35 = .ok (.aload_n 0, 1) := by decide +kernel
theorem dX6_freeAt_36 : decode cX6_freeAt 36 = .ok (.getfield 26, 3) := by decide +kernel
theorem dX6_freeAt_39 : decode cX6_freeAt 39 = .ok (.getfield 185, 3) := by decide +kernel
theorem dX6_freeAt_42 : decode cX6_freeAt 42 = .ok (.if_icmp .gt 30, 3) := by decide +kernel
theorem dX6_freeAt_45 : decode cX6_freeAt 45 = .ok (.aload_n 0, 1) := by decide +kernel
theorem dX6_freeAt_46 : decode cX6_freeAt 46 = .ok (.iload_n 1, 1) := by decide +kernel
theorem dX6_freeAt_47 : decode cX6_freeAt 47 = .ok (.iload 4, 2) := by decide +kernel
theorem dX6_freeAt_49 : decode cX6_freeAt 49 = .ok (.invokevirtual 254, 3) := by decide +kernel
theorem dX6_freeAt_52 : decode cX6_freeAt 52 = .ok (.ifCond .eq 14, 3) := by decide +kernel
theorem dX6_freeAt_55 : decode cX6_freeAt 55 = .ok (.iload_n 3, 1) := by decide +kernel
theorem dX6_freeAt_56 : decode cX6_freeAt 56 = .ok (.iload_n 2, 1) := by decide +kernel
theorem dX6_freeAt_57 : decode cX6_freeAt 57 = .ok (.if_icmp .ne 6, 3) := by decide +kernel
theorem dX6_freeAt_60 : decode cX6_freeAt 60 = .ok (.iload 4, 2) := by decide +kernel
theorem dX6_freeAt_62 : decode cX6_freeAt 62 = .ok (.ireturn, 1) := by decide +kernel
theorem dX6_freeAt_63 : decode cX6_freeAt 63 = .ok (.iinc 3 1, 3) := by decide +kernel
theorem dX6_freeAt_66 : decode cX6_freeAt 66 = .ok (.iinc 4 1, 3) := by decide +kernel
theorem dX6_freeAt_69 : decode cX6_freeAt 69 = .ok (.goto (-36), 3) := by decide +kernel
theorem dX6_freeAt_72 : decode cX6_freeAt 72 = .ok (.bipush (-2), 2) := by decide +kernel
theorem dX6_freeAt_74 : decode cX6_freeAt 74 = .ok (.ireturn, 1) := by decide +kernel
theorem dX6_spare_0 : decode cX6_spare 0 = .ok (.aload_n 0, 1) := by decide +kernel
theorem dX6_spare_1 : decode cX6_spare 1 = .ok (.getfield 26, 3) := by decide +kernel
theorem dX6_spare_4 : decode cX6_spare 4 = .ok (.iload_n 1, 1) := by decide +kernel
theorem dX6_spare_5 : decode cX6_spare 5 = .ok (.invokevirtual 94, 3) := by decide +kernel
theorem dX6_spare_8 : decode cX6_spare 8 = .ok (.ifCond .ne 5, 3) := by decide +kernel
theorem dX6_spare_11 : decode cX6_spare 11 = .ok (.iconst (-1), 1) := by decide +kernel
theorem dX6_spare_12 : decode cX6_spare 12 = .ok (.ireturn, 1) := by decide +kernel
theorem dX6_spare_13 : decode cX6_spare 13 = .ok (.iconst 0, 1) := by decide +kernel
theorem dX6_spare_14 : decode cX6_spare 14 = .ok (.istore_n 2, 1) := by decide +kernel
theorem dX6_spare_15 : decode cX6_spare 15 = .ok (.iconst 1, 1) := by decide +kernel
theorem dX6_spare_16 : decode cX6_spare 16 = .ok (.istore_n 3, 1) := by decide +kernel
theorem dX6_spare_17 : decode cX6_spare 17 = .ok (.iload_n 3, 1) := by decide +kernel
theorem dX6_spare_18 : decode cX6_spare 18 = .ok (.aload_n 0, 1) := by decide +kernel
theorem dX6_spare_19 : decode cX6_spare 19 = .ok (.getfield 26, 3) := by decide +kernel
theorem dX6_spare_22 : decode cX6_spare 22 = .ok (.getfield 185, 3) := by decide +kernel
theorem dX6_spare_25 : decode cX6_spare 25 = .ok (.if_icmp .gt 57, 3) := by decide +kernel
theorem dX6_spare_28 : decode cX6_spare 28 = .ok (.aload_n 0, 1) := by decide +kernel
theorem dX6_spare_29 : decode cX6_spare 29 = .ok (.getfield 30, 3) := by decide +kernel
theorem dX6_spare_32 : decode cX6_spare 32 = .ok (.aload_n 0, 1) := by decide +kernel
theorem dX6_spare_33 : decode cX6_spare 33 = .ok (.getfield 26, 3) := by decide +kernel
theorem dX6_spare_36 : decode cX6_spare 36 = .ok (.invokevirtual 248, 3) := by decide +kernel
theorem dX6_spare_39 : decode cX6_spare 39 = .ok (.aload_n 0, 1) := by decide +kernel
theorem dX6_spare_40 : decode cX6_spare 40 = .ok (.iload_n 1, 1) := by decide +kernel
theorem dX6_spare_41 : decode cX6_spare 41 = .ok (.iload_n 3, 1) := by decide +kernel
theorem dX6_spare_42 : decode cX6_spare 42 = .ok (.invokevirtual 254, 3) := by decide +kernel
theorem dX6_spare_45 : decode cX6_spare 45 = .ok (.ifCond .eq 31, 3) := by decide +kernel
theorem dX6_spare_48 : decode cX6_spare 48 = .ok (.aload_n 0, 1) := by decide +kernel
theorem dX6_spare_49 : decode cX6_spare 49 = .ok (.getfield 43, 3) := by decide +kernel
theorem dX6_spare_52 : decode cX6_spare 52 = .ok (.aload_n 0, 1) := by decide +kernel
theorem dX6_spare_53 : decode cX6_spare 53 = .ok (.getfield 36, 3) := by decide +kernel
theorem dX6_spare_56 : decode cX6_spare 56 = .ok (.aload_n 0, 1) := by decide +kernel
theorem dX6_spare_57 : decode cX6_spare 57 = .ok (.getfield 30, 3) := by decide +kernel
theorem dX6_spare_60 : decode cX6_spare 60 = .ok (.aload_n 0, 1) := by decide +kernel
theorem dX6_spare_61 : decode cX6_spare 61 = .ok (.getfield 30, 3) := by decide +kernel
theorem dX6_spare_64 : decode cX6_spare 64 = .ok (.invokevirtual 258, 3) := by decide +kernel
theorem dX6_spare_67 : decode cX6_spare 67 = .ok (.invokevirtual 261, 3) := by decide +kernel
theorem dX6_spare_70 : decode cX6_spare 70 = .ok (.ifCond .ne 6, 3) := by decide +kernel
theorem dX6_spare_73 : decode cX6_spare 73 = .ok (.iinc 2 1, 3) := by decide +kernel
theorem dX6_spare_76 : decode cX6_spare 76 = .ok (.iinc 3 1, 3) := by decide +kernel
theorem dX6_spare_79 : decode cX6_spare 79 = .ok (.goto (-62), 3) := by decide +kernel
theorem dX6_spare_82 : decode cX6_spare 82 = .ok (.iload_n 2, 1) := by decide +kernel
theorem dX6_spare_83 : decode cX6_spare 83 = .ok (.ireturn, 1) := by decide +kernel
theorem dX6_trouble_0 : decode cX6_trouble 0 = .ok (.aload_n 0, 1) := by decide +kernel
theorem dX6_trouble_1 : decode cX6_trouble 1 = .ok (.getfield 36, 3) := by decide +kernel
theorem dX6_trouble_4 : decode cX6_trouble 4 = .ok (.aload_n 1, 1) := by decide +kernel
theorem dX6_trouble_5 : decode cX6_trouble 5 = .ok (.invokevirtual 202, 3) := by decide +kernel
theorem dX6_trouble_8 : decode cX6_trouble 8 = .ok (.aload_n 0, 1) := by decide +kernel
theorem dX6_trouble_9 : decode cX6_trouble 9 = .ok (.getfield 36, 3) := by decide +kernel
theorem dX6_trouble_12 : decode cX6_trouble 12 = .ok (.getfield 210, 3) := by decide +kernel
theorem dX6_trouble_15 : decode cX6_trouble 15 = .ok (.aload_n 1, 1) := by decide +kernel
theorem dX6_trouble_16 : decode cX6_trouble 16 = .ok (.invokevirtual 213, 3) := by decide +kernel
theorem dX6_trouble_19 : decode cX6_trouble 19 = .ok (.iadd, 1) := by decide +kernel
theorem dX6_trouble_20 : decode cX6_trouble 20 = .ok (.ireturn, 1) := by decide +kernel
theorem dX6_ifTuned_0 : decode cX6_ifTuned 0 = .ok (.aload_n 0, 1) := by decide +kernel
theorem dX6_ifTuned_1 : decode cX6_ifTuned 1 = .ok (.getfield 26, 3) := by decide +kernel
theorem dX6_ifTuned_4 : decode cX6_ifTuned 4 = .ok (.iload_n 1, 1) := by decide +kernel
theorem dX6_ifTuned_5 : decode cX6_ifTuned 5 = .ok (.invokevirtual 94, 3) := by decide +kernel
theorem dX6_ifTuned_8 : decode cX6_ifTuned 8 = .ok (.ifCond .eq 18, 3) := by decide +kernel
theorem dX6_ifTuned_11 : decode cX6_ifTuned 11 = .ok (.iload_n 2, 1) := by decide +kernel
theorem dX6_ifTuned_12 : decode cX6_ifTuned 12 = .ok (.ifCond .eq 16, 3) := by decide +kernel
theorem dX6_ifTuned_15 : decode cX6_ifTuned 15 = .ok (.aload_n 0, 1) := by decide +kernel
theorem dX6_ifTuned_16 : decode cX6_ifTuned 16 = .ok (.getfield 26, 3) := by decide +kernel
theorem dX6_ifTuned_19 : decode cX6_ifTuned 19 = .ok (.iload_n 2, 1) := by decide +kernel
theorem dX6_ifTuned_20 : decode cX6_ifTuned 20 = .ok (.invokevirtual 98, 3) := by decide +kernel
theorem dX6_ifTuned_23 : decode cX6_ifTuned 23 = .ok (.ifCond .ne 5, 3) := by decide +kernel
theorem dX6_ifTuned_26 : decode cX6_ifTuned 26 = .ok (.iconst (-1), 1) := by decide +kernel
theorem dX6_ifTuned_27 : decode cX6_ifTuned 27 = .ok (.ireturn, 1) := by decide +kernel
theorem dX6_ifTuned_28 : decode cX6_ifTuned 28 = .ok (.aload_n 0, 1) := by decide +kernel
theorem dX6_ifTuned_29 : decode cX6_ifTuned 29 = .ok (.getfield 30, 3) := by decide +kernel
theorem dX6_ifTuned_32 : decode cX6_ifTuned 32 = .ok (.aload_n 0, 1) := by decide +kernel
theorem dX6_ifTuned_33 : decode cX6_ifTuned 33 = .ok (.getfield 26, 3) := by decide +kernel
theorem dX6_ifTuned_36 : decode cX6_ifTuned 36 = .ok (.invokevirtual 248, 3) := by decide +kernel
theorem dX6_ifTuned_39 : decode cX6_ifTuned 39 = .ok (.aload_n 0, 1) := by decide +kernel
theorem dX6_ifTuned_40 : decode cX6_ifTuned 40 = .ok (.getfield 30, 3) := by decide +kernel
theorem dX6_ifTuned_43 : decode cX6_ifTuned 43 = .ok (.getfield 105, 3) := by decide +kernel
theorem dX6_ifTuned_46 : decode cX6_ifTuned 46 = .ok (.iload_n 1, 1) := by decide +kernel
theorem dX6_ifTuned_47 : decode cX6_ifTuned 47 = .ok (.iload_n 2, 1) := by decide +kernel
theorem dX6_ifTuned_48 : decode cX6_ifTuned 48 = .ok (.iastore, 1) := by decide +kernel
theorem dX6_ifTuned_49 : decode cX6_ifTuned 49 = .ok (.aload_n 0, 1) := by decide +kernel
theorem dX6_ifTuned_50 : decode cX6_ifTuned 50 = .ok (.aload_n 0, 1) := by decide +kernel
theorem dX6_ifTuned_51 : decode cX6_ifTuned 51 = .ok (.getfield 30, 3) := by decide +kernel
theorem dX6_ifTuned_54 : decode cX6_ifTuned 54 = .ok (.invokevirtual 265, 3) := by decide +kernel
theorem dX6_ifTuned_57 : decode cX6_ifTuned 57 = .ok (.ireturn, 1) := by decide +kernel
theorem dX6_quietest_0 : decode cX6_quietest 0 = .ok (.aload_n 0, 1) := by decide +kernel
theorem dX6_quietest_1 : decode cX6_quietest 1 = .ok (.getfield 26, 3) := by decide +kernel
theorem dX6_quietest_4 : decode cX6_quietest 4 = .ok (.iload_n 1, 1) := by decide +kernel
theorem dX6_quietest_5 : decode cX6_quietest 5 = .ok (.invokevirtual 94, 3) := by decide +kernel
theorem dX6_quietest_8 : decode cX6_quietest 8 = .ok (.ifCond .ne 5, 3) := by decide +kernel
theorem dX6_quietest_11 : decode cX6_quietest 11 = .ok (.iconst (-1), 1) := by decide +kernel
theorem dX6_quietest_12 : decode cX6_quietest 12 = .ok (.ireturn, 1) := by decide +kernel
theorem dX6_quietest_13 : decode cX6_quietest 13 = .ok (.aload_n 0, 1) := by decide +kernel
theorem dX6_quietest_14 : decode cX6_quietest 14 = .ok (.getfield 30, 3) := by decide +kernel
theorem dX6_quietest_17 : decode cX6_quietest 17 = .ok (.aload_n 0, 1) := by decide +kernel
theorem dX6_quietest_18 : decode cX6_quietest 18 = .ok (.getfield 26, 3) := by decide +kernel
theorem dX6_quietest_21 : decode cX6_quietest 21 = .ok (.invokevirtual 248, 3) := by decide +kernel
theorem dX6_quietest_24 : decode cX6_quietest 24 = .ok (.bipush (-2), 2) := by decide +kernel
theorem dX6_quietest_26 : decode cX6_quietest 26 = .ok (.istore_n 2, 1) := by decide +kernel
theorem dX6_quietest_27 : decode cX6_quietest 27 = .ok (.iconst 0, 1) := by decide +kernel
theorem dX6_quietest_28 : decode cX6_quietest 28 = .ok (.istore_n 3, 1) := by decide +kernel
theorem dX6_quietest_29 : decode cX6_quietest 29 = .ok (.aload_n 0, 1) := by decide +kernel
theorem dX6_quietest_30 : decode cX6_quietest 30 = .ok (.getfield 26, 3) := by decide +kernel
theorem dX6_quietest_33 : decode cX6_quietest 33 = .ok (.getfield 165, 3) := by decide +kernel
theorem dX6_quietest_36 : decode cX6_quietest 36 = .ok (.iload_n 1, 1) := by decide +kernel
theorem dX6_quietest_37 : decode cX6_quietest 37 = .ok (.iaload, 1) := by decide +kernel
theorem dX6_quietest_38 : decode cX6_quietest 38 = .ok (.istore 4, 2) := by decide +kernel
theorem dX6_quietest_40 : decode cX6_quietest 40 = .ok (.iload 4, 2) := by decide +kernel
theorem dX6_quietest_42 : decode cX6_quietest 42 = .ok (.aload_n 0, 1) := by decide +kernel
theorem dX6_quietest_43 : decode cX6_quietest 43 = .ok (.getfield 26, 3) := by decide +kernel
theorem dX6_quietest_46 : decode cX6_quietest 46 = .ok (.getfield 168, 3) := by decide +kernel
theorem dX6_quietest_49 : decode cX6_quietest 49 = .ok (.iload_n 1, 1) := by decide +kernel
theorem dX6_quietest_50 : decode cX6_quietest 50 = .ok (.iaload, 1) := by decide +kernel
theorem dX6_quietest_51 : decode cX6_quietest 51 = .ok (.if_icmp .gt 60, 3) := by decide +kernel
theorem dX6_quietest_54 : decode cX6_quietest 54 = .ok (.aload_n 0, 1) := by decide +kernel
theorem dX6_quietest_55 : decode cX6_quietest 55 = .ok (.getfield 26, 3) := by decide +kernel
theorem dX6_quietest_58 : decode cX6_quietest 58 = .ok (.iload 4, 2) := by decide +kernel
theorem dX6_quietest_60 : decode cX6_quietest 60 = .ok (.invokevirtual 112, 3) := by decide +kernel
theorem dX6_quietest_63 : decode cX6_quietest 63 = .ok (.ifCond .ne 42, 3) := by decide +kernel
theorem dX6_quietest_66 : decode cX6_quietest 66 = .ok (.aload_n 0, 1) := by decide +kernel
theorem dX6_quietest_67 : decode cX6_quietest 67 = .ok (.getfield 30, 3) := by decide +kernel
theorem dX6_quietest_70 : decode cX6_quietest 70 = .ok (.getfield 105, 3) := by decide +kernel
theorem dX6_quietest_73 : decode cX6_quietest 73 = .ok (.iload_n 1, 1) := by decide +kernel
theorem dX6_quietest_74 : decode cX6_quietest 74 = .ok (.iload 4, 2) := by decide +kernel
theorem dX6_quietest_76 : decode cX6_quietest 76 = .ok (.iastore, 1) := by decide +kernel
theorem dX6_quietest_77 : decode cX6_quietest 77 = .ok (.aload_n 0, 1) := by decide +kernel
theorem dX6_quietest_78 : decode cX6_quietest 78 = .ok (.aload_n 0, 1) := by decide +kernel
theorem dX6_quietest_79 : decode cX6_quietest 79 = .ok (.getfield 30, 3) := by decide +kernel
theorem dX6_quietest_82 : decode cX6_quietest 82 = .ok (.invokevirtual 265, 3) := by decide +kernel
theorem dX6_quietest_85 : decode cX6_quietest 85 = .ok (.istore 5, 2) := by decide +kernel
theorem dX6_quietest_87 : decode cX6_quietest 87 = .ok (.iload_n 2, 1) := by decide +kernel
theorem dX6_quietest_88 : decode cX6_quietest 88 = .ok (.bipush (-2), 2) := by decide +kernel
theorem dX6_quietest_90 : decode cX6_quietest 90 = .ok (.if_icmp .eq 9, 3) := by decide +kernel
theorem dX6_quietest_93 : decode cX6_quietest 93 = .ok (.iload 5, 2) := by decide +kernel
theorem dX6_quietest_95 : decode cX6_quietest 95 = .ok (.iload_n 3, 1) := by decide +kernel
theorem dX6_quietest_96 : decode cX6_quietest 96 = .ok (.if_icmp .ge 9, 3) := by decide +kernel
theorem dX6_quietest_99 : decode cX6_quietest 99 = .ok (.iload 4, 2) := by decide +kernel
theorem dX6_quietest_101 : decode cX6_quietest 101 = .ok (.istore_n 2, 1) := by decide +kernel
theorem dX6_quietest_102 : decode cX6_quietest 102 = .ok (.iload 5, 2) := by decide +kernel
theorem dX6_quietest_104 : decode cX6_quietest 104 = .ok (.istore_n 3, 1) := by decide +kernel
theorem dX6_quietest_105 : decode cX6_quietest 105 = .ok (.iinc 4 1, 3) := by decide +kernel
theorem dX6_quietest_108 : decode cX6_quietest 108 = .ok (.goto (-68), 3) := by decide +kernel
theorem dX6_quietest_111 : decode cX6_quietest 111 = .ok (.iload_n 2, 1) := by decide +kernel
theorem dX6_quietest_112 : decode cX6_quietest 112 = .ok (.ireturn, 1) := by decide +kernel
theorem dX6_bestSwap_0 : decode cX6_bestSwap 0 = .ok (.bipush (-2), 2) := by decide +kernel
theorem dX6_bestSwap_2 : decode cX6_bestSwap 2 = .ok (.istore_n 1, 1) := by decide +kernel
theorem dX6_bestSwap_3 : decode cX6_bestSwap 3 = .ok (.aload_n 0, 1) := by decide +kernel
theorem dX6_bestSwap_4 : decode cX6_bestSwap 4 = .ok (.aload_n 0, 1) := by decide +kernel
theorem dX6_bestSwap_5 : decode cX6_bestSwap 5 = .ok (.getfield 26, 3) := by decide +kernel
theorem dX6_bestSwap_8 : decode cX6_bestSwap 8 = .ok (.invokevirtual 265, 3) := by decide +kernel
theorem dX6_bestSwap_11 : decode cX6_bestSwap 11 = .ok (.istore_n 2, 1) := by decide +kernel
theorem dX6_bestSwap_12 : decode cX6_bestSwap 12 = .ok (.iconst 0, 1) := by decide +kernel
theorem dX6_bestSwap_13 : decode cX6_bestSwap 13 = .ok (.istore_n 3, 1) := by decide +kernel
theorem dX6_bestSwap_14 : decode cX6_bestSwap 14 = .ok (.iload_n 3, 1) := by decide +kernel
theorem dX6_bestSwap_15 : decode cX6_bestSwap 15 = .ok (.aload_n 0, 1) := by decide +kernel
theorem dX6_bestSwap_16 : decode cX6_bestSwap 16 = .ok (.getfield 26, 3) := by decide +kernel
theorem dX6_bestSwap_19 : decode cX6_bestSwap 19 = .ok (.getfield 182, 3) := by decide +kernel
theorem dX6_bestSwap_22 : decode cX6_bestSwap 22 = .ok (.if_icmp .ge 83, 3) := by decide +kernel
theorem dX6_bestSwap_25 : decode cX6_bestSwap 25 = .ok (.iload_n 3, 1) := by decide +kernel
theorem dX6_bestSwap_26 : decode cX6_bestSwap 26 = .ok (.iconst 1, 1) := by decide +kernel
theorem dX6_bestSwap_27 : decode cX6_bestSwap 27 = .ok (.iadd, 1) := by decide +kernel
theorem dX6_bestSwap_28 : decode cX6_bestSwap 28 = .ok (.istore 4, 2) := by decide +kernel
theorem dX6_bestSwap_30 : decode cX6_bestSwap 30 = .ok (.iload 4, 2) := by decide +kernel
theorem dX6_bestSwap_32 : decode cX6_bestSwap 32 = .ok (.aload_n 0, 1) := by decide +kernel
theorem dX6_bestSwap_33 : decode cX6_bestSwap 33 = .ok (.getfield 26, 3) := by decide +kernel
theorem dX6_bestSwap_36 : decode cX6_bestSwap 36 = .ok (.getfield 182, 3) := by decide +kernel
theorem dX6_bestSwap_39 : decode cX6_bestSwap 39 = .ok (.if_icmp .ge 60, 3) := by decide +kernel
theorem dX6_bestSwap_42 : decode cX6_bestSwap 42 = .ok (.aload_n 0, 1) := by decide +kernel
theorem dX6_bestSwap_43 : decode cX6_bestSwap 43 = .ok (.getfield 26, 3) := by decide +kernel
theorem dX6_bestSwap_46 : decode cX6_bestSwap 46 = .ok (.getfield 105, 3) := by decide +kernel
theorem dX6_bestSwap_49 : decode cX6_bestSwap 49 = .ok (.iload_n 3, 1) := by decide +kernel
theorem dX6_bestSwap_50 : decode cX6_bestSwap 50 = .ok (.iaload, 1) := by decide +kernel
theorem dX6_bestSwap_51 : decode cX6_bestSwap 51 = .ok (.ifCond .le 42, 3) := by decide +kernel
theorem dX6_bestSwap_54 : decode cX6_bestSwap 54 = .ok (.aload_n 0, 1) := by decide +kernel
theorem dX6_bestSwap_55 : decode cX6_bestSwap 55 = .ok (.getfield 26, 3) := by decide +kernel
theorem dX6_bestSwap_58 : decode cX6_bestSwap 58 = .ok (.getfield 105, 3) := by decide +kernel
theorem dX6_bestSwap_61 : decode cX6_bestSwap 61 = .ok (.iload 4, 2) := by decide +kernel
theorem dX6_bestSwap_63 : decode cX6_bestSwap 63 = .ok (.iaload, 1) := by decide +kernel
theorem dX6_bestSwap_64 : decode cX6_bestSwap 64 = .ok (.ifCond .le 29, 3) := by decide +kernel
theorem dX6_bestSwap_67 : decode cX6_bestSwap 67 = .ok (.aload_n 0, 1) := by decide +kernel
theorem dX6_bestSwap_68 : decode cX6_bestSwap 68 = .ok (.iload_n 3, 1) := by decide +kernel
theorem dX6_bestSwap_69 : decode cX6_bestSwap 69 = .ok (.iload 4, 2) := by decide +kernel
theorem dX6_bestSwap_71 : decode cX6_bestSwap 71 = .ok (.invokevirtual 269, 3) := by decide +kernel
theorem dX6_bestSwap_74 : decode cX6_bestSwap 74 = .ok (.istore 5, 2) := by decide +kernel
theorem dX6_bestSwap_76 : decode cX6_bestSwap 76 = .ok (.iload 5, 2) := by decide +kernel
theorem dX6_bestSwap_78 : decode cX6_bestSwap 78 = .ok (.iload_n 2, 1) := by decide +kernel
theorem dX6_bestSwap_79 : decode cX6_bestSwap 79 = .ok (.if_icmp .ge 14, 3) := by decide +kernel
theorem dX6_bestSwap_82 : decode cX6_bestSwap 82 = .ok (.bipush 6, 2) := by decide +kernel
theorem dX6_bestSwap_84 : decode cX6_bestSwap 84 = .ok (.iload_n 3, 1) := by decide +kernel
theorem dX6_bestSwap_85 : decode cX6_bestSwap 85 = .ok (.imul, 1) := by decide +kernel
theorem dX6_bestSwap_86 : decode cX6_bestSwap 86 = .ok (.iload 4, 2) := by decide +kernel
theorem dX6_bestSwap_88 : decode cX6_bestSwap 88 = .ok (.iadd, 1) := by decide +kernel
theorem dX6_bestSwap_89 : decode cX6_bestSwap 89 = .ok (.istore_n 1, 1) := by decide +kernel
theorem dX6_bestSwap_90 : decode cX6_bestSwap 90 = .ok (.iload 5, 2) := by decide +kernel
theorem dX6_bestSwap_92 : decode cX6_bestSwap 92 = .ok (.istore_n 2, 1) := by decide +kernel
theorem dX6_bestSwap_93 : decode cX6_bestSwap 93 = .ok (.iinc 4 1, 3) := by decide +kernel
theorem dX6_bestSwap_96 : decode cX6_bestSwap 96 = .ok (.goto (-66), 3) := by decide +kernel
theorem dX6_bestSwap_99 : decode cX6_bestSwap 99 = .ok (.iinc 3 1, 3) := by decide +kernel
theorem dX6_bestSwap_102 : decode cX6_bestSwap 102 = .ok (.goto (-88), 3) := by decide +kernel
theorem dX6_bestSwap_105 : decode cX6_bestSwap 105 = .ok (.iload_n 1, 1) := by decide +kernel
theorem dX6_bestSwap_106 : decode cX6_bestSwap 106 = .ok (.ireturn, 1) := by decide +kernel
theorem dX6_troubleOfSwap_0 : decode cX6_troubleOfSwap 0 = .ok (.aload_n 0, 1) := by decide +kernel
theorem dX6_troubleOfSwap_1 : decode cX6_troubleOfSwap 1 = .ok (.getfield 30, 3) := by decide +kernel
theorem dX6_troubleOfSwap_4 : decode cX6_troubleOfSwap 4 = .ok (.aload_n 0, 1) := by decide +kernel
theorem dX6_troubleOfSwap_5 : decode cX6_troubleOfSwap 5 = .ok (.getfield 26, 3) := by decide +kernel
theorem dX6_troubleOfSwap_8 : decode cX6_troubleOfSwap 8 = .ok (.invokevirtual 248, 3) := by decide +kernel
theorem dX6_troubleOfSwap_11 : decode cX6_troubleOfSwap 11 = .ok (.aload_n 0, 1) := by decide +kernel
theorem dX6_troubleOfSwap_12 : decode cX6_troubleOfSwap 12 = .ok (.getfield 30, 3) := by decide +kernel
theorem dX6_troubleOfSwap_15 : decode cX6_troubleOfSwap 15 = .ok (.getfield 105, 3) := by decide +kernel
theorem dX6_troubleOfSwap_18 : decode cX6_troubleOfSwap 18 = .ok (.iload_n 1, 1) := by decide +kernel
theorem dX6_troubleOfSwap_19 : decode cX6_troubleOfSwap 19 = .ok (.aload_n 0, 1) := by decide +kernel
theorem dX6_troubleOfSwap_20 : decode cX6_troubleOfSwap 20 = .ok (.getfield 26, 3) := by decide +kernel
theorem dX6_troubleOfSwap_23 : decode cX6_troubleOfSwap 23 = .ok (.getfield 105, 3) := by decide +kernel
theorem dX6_troubleOfSwap_26 : decode cX6_troubleOfSwap 26 = .ok (.iload_n 2, 1) := by decide +kernel
theorem dX6_troubleOfSwap_27 : decode cX6_troubleOfSwap 27 = .ok (.iaload, 1) := by decide +kernel
theorem dX6_troubleOfSwap_28 : decode cX6_troubleOfSwap 28 = .ok (.iastore, 1) := by decide +kernel
theorem dX6_troubleOfSwap_29 : decode cX6_troubleOfSwap 29 = .ok (.aload_n 0, 1) := by decide +kernel
theorem dX6_troubleOfSwap_30 : decode cX6_troubleOfSwap 30 = .ok (.getfield 30, 3) := by decide +kernel
theorem dX6_troubleOfSwap_33 : decode cX6_troubleOfSwap 33 = .ok (.getfield 105, 3) := by decide +kernel
theorem dX6_troubleOfSwap_36 : decode cX6_troubleOfSwap 36 = .ok (.iload_n 2, 1) := by decide +kernel
theorem dX6_troubleOfSwap_37 : decode cX6_troubleOfSwap 37 = .ok (.aload_n 0, 1) := by decide +kernel
theorem dX6_troubleOfSwap_38 : decode cX6_troubleOfSwap 38 = .ok (.getfield 26, 3) := by decide +kernel
theorem dX6_troubleOfSwap_41 : decode cX6_troubleOfSwap 41 = .ok (.getfield 105, 3) := by decide +kernel
theorem dX6_troubleOfSwap_44 : decode cX6_troubleOfSwap 44 = .ok (.iload_n 1, 1) := by decide +kernel
theorem dX6_troubleOfSwap_45 : decode cX6_troubleOfSwap 45 = .ok (.iaload, 1) := by decide +kernel
theorem dX6_troubleOfSwap_46 : decode cX6_troubleOfSwap 46 = .ok (.iastore, 1) := by decide +kernel
theorem dX6_troubleOfSwap_47 : decode cX6_troubleOfSwap 47 = .ok (.aload_n 0, 1) := by decide +kernel
theorem dX6_troubleOfSwap_48 : decode cX6_troubleOfSwap 48 = .ok (.aload_n 0, 1) := by decide +kernel
theorem dX6_troubleOfSwap_49 : decode cX6_troubleOfSwap 49 = .ok (.getfield 30, 3) := by decide +kernel
theorem dX6_troubleOfSwap_52 : decode cX6_troubleOfSwap 52 = .ok (.invokevirtual 265, 3) := by decide +kernel
theorem dX6_troubleOfSwap_55 : decode cX6_troubleOfSwap 55 = .ok (.ireturn, 1) := by decide +kernel
theorem dX6_mostPower_0 : decode cX6_mostPower 0 = .ok (.aload_n 0, 1) := by decide +kernel
theorem dX6_mostPower_1 : decode cX6_mostPower 1 = .ok (.getfield 26, 3) := by decide +kernel
theorem dX6_mostPower_4 : decode cX6_mostPower 4 = .ok (.iload_n 1, 1) := by decide +kernel
theorem dX6_mostPower_5 : decode cX6_mostPower 5 = .ok (.invokevirtual 94, 3) := by decide +kernel
theorem dX6_mostPower_8 : decode cX6_mostPower 8 = .ok (.ifCond .ne 5, 3) := by decide +kernel
theorem dX6_mostPower_11 : decode cX6_mostPower 11 = .ok (.iconst (-1), 1) := by decide +kernel
theorem dX6_mostPower_12 : decode cX6_mostPower 12 = .ok (.ireturn, 1) := by decide +kernel
theorem dX6_mostPower_13 : decode cX6_mostPower 13 = .ok (.aload_n 0, 1) := by decide +kernel
theorem dX6_mostPower_14 : decode cX6_mostPower 14 = .ok (.getfield 30, 3) := by decide +kernel
theorem dX6_mostPower_17 : decode cX6_mostPower 17 = .ok (.aload_n 0, 1) := by decide +kernel
theorem dX6_mostPower_18 : decode cX6_mostPower 18 = .ok (.getfield 26, 3) := by decide +kernel
theorem dX6_mostPower_21 : decode cX6_mostPower 21 = .ok (.invokevirtual 248, 3) := by decide +kernel
theorem dX6_mostPower_24 : decode cX6_mostPower 24 = .ok (.bipush 30, 2) := by decide +kernel
theorem dX6_mostPower_26 : decode cX6_mostPower 26 = .ok (.istore_n 2, 1) := by decide +kernel
theorem dX6_mostPower_27 : decode cX6_mostPower 27 = .ok (.iload_n 2, 1) := by decide +kernel
theorem dX6_mostPower_28 : decode cX6_mostPower 28 = .ok (.ifCond .lt 35, 3) := by decide +kernel
theorem dX6_mostPower_31 : decode cX6_mostPower 31 = .ok (.aload_n 0, 1) := by decide +kernel
theorem dX6_mostPower_32 : decode cX6_mostPower 32 = .ok (.getfield 30, 3) := by decide +kernel
theorem dX6_mostPower_35 : decode cX6_mostPower 35 = .ok (.getfield 115, 3) := by decide +kernel
theorem dX6_mostPower_38 : decode cX6_mostPower 38 = .ok (.iload_n 1, 1) := by decide +kernel
theorem dX6_mostPower_39 : decode cX6_mostPower 39 = .ok (.iload_n 2, 1) := by decide +kernel
theorem dX6_mostPower_40 : decode cX6_mostPower 40 = .ok (.iastore, 1) := by decide +kernel
theorem dX6_mostPower_41 : decode cX6_mostPower 41 = .ok (.aload_n 0, 1) := by decide +kernel
theorem dX6_mostPower_42 : decode cX6_mostPower 42 = .ok (.getfield 36, 3) := by decide +kernel
theorem dX6_mostPower_45 : decode cX6_mostPower 45 = .ok (.aload_n 0, 1) := by decide +kernel
theorem dX6_mostPower_46 : decode cX6_mostPower 46 = .ok (.getfield 30, 3) := by decide +kernel
theorem dX6_mostPower_49 : decode cX6_mostPower 49 = .ok (.invokevirtual 272, 3) := by decide +kernel
theorem dX6_mostPower_52 : decode cX6_mostPower 52 = .ok (.ifCond .ne 5, 3) := by decide +kernel
theorem dX6_mostPower_55 : decode cX6_mostPower 55 = .ok (.iload_n 2, 1) := by decide +kernel
theorem dX6_mostPower_56 : decode cX6_mostPower 56 = .ok (.ireturn, 1) := by decide +kernel
theorem dX6_mostPower_57 : decode cX6_mostPower 57 = .ok (.iinc 2 (-1), 3) := by decide +kernel
theorem dX6_mostPower_60 : decode cX6_mostPower 60 = .ok (.goto (-33), 3) := by decide +kernel
theorem dX6_mostPower_63 : decode cX6_mostPower 63 = .ok (.bipush (-2), 2) := by decide +kernel
theorem dX6_mostPower_65 : decode cX6_mostPower 65 = .ok (.ireturn, 1) := by decide +kernel
theorem dX6_mostGuard_0 : decode cX6_mostGuard 0 = .ok (.aload_n 0, 1) := by decide +kernel
theorem dX6_mostGuard_1 : decode cX6_mostGuard 1 = .ok (.getfield 30, 3) := by decide +kernel
theorem dX6_mostGuard_4 : decode cX6_mostGuard 4 = .ok (.aload_n 0, 1) := by decide +kernel
theorem dX6_mostGuard_5 : decode cX6_mostGuard 5 = .ok (.getfield 26, 3) := by decide +kernel
theorem dX6_mostGuard_8 : decode cX6_mostGuard 8 = .ok (.invokevirtual 248, 3) := by decide +kernel
theorem dX6_mostGuard_11 : decode cX6_mostGuard 11 = .ok (.iconst 5, 1) := by decide +kernel
theorem dX6_mostGuard_12 : decode cX6_mostGuard 12 = .ok (.istore_n 1, 1) := by decide +kernel
theorem dX6_mostGuard_13 : decode cX6_mostGuard 13 = .ok (.iload_n 1, 1) := by decide +kernel
theorem dX6_mostGuard_14 : decode cX6_mostGuard 14 = .ok (.ifCond .lt 33, 3) := by decide +kernel
theorem dX6_mostGuard_17 : decode cX6_mostGuard 17 = .ok (.aload_n 0, 1) := by decide +kernel
theorem dX6_mostGuard_18 : decode cX6_mostGuard 18 = .ok (.getfield 30, 3) := by decide +kernel
theorem dX6_mostGuard_21 : decode cX6_mostGuard 21 = .ok (.iload_n 1, 1) := by decide +kernel
theorem dX6_mostGuard_22 : decode cX6_mostGuard 22 = .ok (.putfield 188, 3) := by decide +kernel
theorem dX6_mostGuard_25 : decode cX6_mostGuard 25 = .ok (.aload_n 0, 1) := by decide +kernel
theorem dX6_mostGuard_26 : decode cX6_mostGuard 26 = .ok (.getfield 36, 3) := by decide +kernel
theorem dX6_mostGuard_29 : decode cX6_mostGuard 29 = .ok (.aload_n 0, 1) := by decide +kernel
theorem dX6_mostGuard_30 : decode cX6_mostGuard 30 = .ok (.getfield 30, 3) := by decide +kernel
theorem dX6_mostGuard_33 : decode cX6_mostGuard 33 = .ok (.invokevirtual 272, 3) := by decide +kernel
theorem dX6_mostGuard_36 : decode cX6_mostGuard 36 = .ok (.ifCond .ne 5, 3) := by decide +kernel
theorem dX6_mostGuard_39 : decode cX6_mostGuard 39 = .ok (.iload_n 1, 1) := by decide +kernel
theorem dX6_mostGuard_40 : decode cX6_mostGuard 40 = .ok (.ireturn, 1) := by decide +kernel
theorem dX6_mostGuard_41 : decode cX6_mostGuard 41 = .ok (.iinc 1 (-1), 3) := by decide +kernel
theorem dX6_mostGuard_44 : decode cX6_mostGuard 44 = .ok (.goto (-31), 3) := by decide +kernel
theorem dX6_mostGuard_47 : decode cX6_mostGuard 47 = .ok (.bipush (-2), 2) := by decide +kernel
theorem dX6_mostGuard_49 : decode cX6_mostGuard 49 = .ok (.ireturn, 1) := by decide +kernel
theorem dX6_turned_0 : decode cX6_turned 0 = .ok (.iload_n 1, 1) := by decide +kernel
theorem dX6_turned_1 : decode cX6_turned 1 = .ok (.iconst (-1), 1) := by decide +kernel
theorem dX6_turned_2 : decode cX6_turned 2 = .ok (.if_icmp .eq 17, 3) := by decide +kernel
theorem dX6_turned_5 : decode cX6_turned 5 = .ok (.aload_n 0, 1) := by decide +kernel
theorem dX6_turned_6 : decode cX6_turned 6 = .ok (.getfield 26, 3) := by decide +kernel
theorem dX6_turned_9 : decode cX6_turned 9 = .ok (.iload_n 1, 1) := by decide +kernel
theorem dX6_turned_10 : decode cX6_turned 10 = .ok (.invokevirtual 94, 3) := by decide +kernel
theorem dX6_turned_13 : decode cX6_turned 13 = .ok (.ifCond .ne 6, 3) := by decide +kernel
theorem dX6_turned_16 : decode cX6_turned 16 = .ok (.bipush (-2), 2) := by decide +kernel
theorem dX6_turned_18 : decode cX6_turned 18 = .ok (.ireturn, 1) := by decide +kernel
theorem dX6_turned_19 : decode cX6_turned 19 = .ok (.aload_n 0, 1) := by decide +kernel
theorem dX6_turned_20 : decode cX6_turned 20 = .ok (.invokevirtual 275, 3) := by decide +kernel
theorem dX6_turned_23 : decode cX6_turned 23 = .ok (.istore_n 2, 1) := by decide +kernel
theorem dX6_turned_24 : decode cX6_turned 24 = .ok (.iload_n 1, 1) := by decide +kernel
theorem dX6_turned_25 : decode cX6_turned 25 = .ok (.iconst (-1), 1) := by decide +kernel
theorem dX6_turned_26 : decode cX6_turned 26 = .ok (.if_icmp .ne 7, 3) := by decide +kernel
theorem dX6_turned_29 : decode cX6_turned 29 = .ok (.iload_n 2, 1) := by decide +kernel
theorem dX6_turned_30 : decode cX6_turned 30 = .ok (.goto 12, 3) := by decide +kernel
theorem dX6_turned_33 : decode cX6_turned 33 = .ok (.aload_n 0, 1) := by decide +kernel
theorem dX6_turned_34 : decode cX6_turned 34 = .ok (.getfield 30, 3) := by decide +kernel
theorem dX6_turned_37 : decode cX6_turned 37 = .ok (.getfield 115, 3) := by decide +kernel
theorem dX6_turned_40 : decode cX6_turned 40 = .ok (.iload_n 1, 1) := by decide +kernel
theorem dX6_turned_41 : decode cX6_turned 41 = .ok (.iaload, 1) := by decide +kernel
theorem dX6_turned_42 : decode cX6_turned 42 = .ok (.ireturn, 1) := by decide +kernel
theorem dX6_left_0 : decode cX6_left 0 = .ok (.aload_n 0, 1) := by decide +kernel
theorem dX6_left_1 : decode cX6_left 1 = .ok (.invokevirtual 275, 3) := by decide +kernel
theorem dX6_left_4 : decode cX6_left 4 = .ok (.pop, 1) := by decide +kernel
theorem dX6_left_5 : decode cX6_left 5 = .ok (.aload_n 0, 1) := by decide +kernel
theorem dX6_left_6 : decode cX6_left 6 = .ok (.getfield 36, 3) := by decide +kernel
theorem dX6_left_9 : decode cX6_left 9 = .ok (.getfield 210, 3) := by decide +kernel
theorem dX6_left_12 : decode cX6_left 12 = .ok (.ireturn, 1) := by decide +kernel
theorem dX6_turnDown_0 : decode cX6_turnDown 0 = .ok (.aload_n 0, 1) := by decide +kernel
theorem dX6_turnDown_1 : decode cX6_turnDown 1 = .ok (.getfield 30, 3) := by decide +kernel
theorem dX6_turnDown_4 : decode cX6_turnDown 4 = .ok (.aload_n 0, 1) := by decide +kernel
theorem dX6_turnDown_5 : decode cX6_turnDown 5 = .ok (.getfield 26, 3) := by decide +kernel
theorem dX6_turnDown_8 : decode cX6_turnDown 8 = .ok (.invokevirtual 248, 3) := by decide +kernel
theorem dX6_turnDown_11 : decode cX6_turnDown 11 = .ok (.aload_n 0, 1) := by decide +kernel
theorem dX6_turnDown_12 : decode cX6_turnDown 12 = .ok (.getfield 36, 3) := by decide +kernel
theorem dX6_turnDown_15 : decode cX6_turnDown 15 = .ok (.aload_n 0, 1) := by decide +kernel
theorem dX6_turnDown_16 : decode cX6_turnDown 16 = .ok (.getfield 30, 3) := by decide +kernel
theorem dX6_turnDown_19 : decode cX6_turnDown 19 = .ok (.invokevirtual 202, 3) := by decide +kernel
theorem dX6_turnDown_22 : decode cX6_turnDown 22 = .ok (.iconst 0, 1) := by decide +kernel
theorem dX6_turnDown_23 : decode cX6_turnDown 23 = .ok (.istore_n 1, 1) := by decide +kernel
theorem dX6_turnDown_24 : decode cX6_turnDown 24 = .ok (.aload_n 0, 1) := by decide +kernel
theorem dX6_turnDown_25 : decode cX6_turnDown 25 = .ok (.getfield 36, 3) := by decide +kernel
theorem dX6_turnDown_28 : decode cX6_turnDown 28 = .ok (.aload_n 0, 1) := by decide +kernel
theorem dX6_turnDown_29 : decode cX6_turnDown 29 = .ok (.getfield 30, 3) := by decide +kernel
theorem dX6_turnDown_32 : decode cX6_turnDown 32 = .ok (.getfield 182, 3) := by decide +kernel
theorem dX6_turnDown_35 : decode cX6_turnDown 35 = .ok (.invokevirtual 236, 3) := by decide +kernel
theorem dX6_turnDown_38 : decode cX6_turnDown 38 = .ok (.istore_n 2, 1) := by decide +kernel
theorem dX6_turnDown_39 : decode cX6_turnDown 39 = .ok (.iload_n 1, 1) := by decide +kernel
theorem dX6_turnDown_40 : decode cX6_turnDown 40 = .ok (.sipush 180, 3) := by decide +kernel
theorem dX6_turnDown_43 : decode cX6_turnDown 43 = .ok (.if_icmp .ge 64, 3) := by decide +kernel
theorem dX6_turnDown_46 : decode cX6_turnDown 46 = .ok (.iload_n 2, 1) := by decide +kernel
theorem dX6_turnDown_47 : decode cX6_turnDown 47 = .ok (.ifCond .lt 60, 3) := by decide +kernel
theorem dX6_turnDown_50 : decode cX6_turnDown 50 = .ok (.aload_n 0, 1) := by decide +kernel
theorem dX6_turnDown_51 : decode cX6_turnDown 51 = .ok (.getfield 30, 3) := by decide +kernel
theorem dX6_turnDown_54 : decode cX6_turnDown 54 = .ok (.getfield 115, 3) := by decide +kernel
theorem dX6_turnDown_57 : decode cX6_turnDown 57 = .ok (.iload_n 2, 1) := by decide +kernel
theorem dX6_turnDown_58 : decode cX6_turnDown 58 = .ok (.iaload, 1) := by decide +kernel
theorem dX6_turnDown_59 : decode cX6_turnDown 59 = .ok (.ifCond .le 48, 3) := by decide +kernel
theorem dX6_turnDown_62 : decode cX6_turnDown 62 = .ok (.aload_n 0, 1) := by decide +kernel
theorem dX6_turnDown_63 : decode cX6_turnDown 63 = .ok (.getfield 30, 3) := by decide +kernel
theorem dX6_turnDown_66 : decode cX6_turnDown 66 = .ok (.getfield 115, 3) := by decide +kernel
theorem dX6_turnDown_69 : decode cX6_turnDown 69 = .ok (.iload_n 2, 1) := by decide +kernel
theorem dX6_turnDown_70 : decode cX6_turnDown 70 = .ok (.dup2, 1) := by decide +kernel
theorem dX6_turnDown_71 : decode cX6_turnDown 71 = .ok (.iaload, 1) := by decide +kernel
theorem dX6_turnDown_72 : decode cX6_turnDown 72 = .ok (.iconst 1, 1) := by decide +kernel
theorem dX6_turnDown_73 : decode cX6_turnDown 73 = .ok (.isub, 1) := by decide +kernel
theorem dX6_turnDown_74 : decode cX6_turnDown 74 = .ok (.iastore, 1) := by decide +kernel
theorem dX6_turnDown_75 : decode cX6_turnDown 75 = .ok (.iinc 1 1, 3) := by decide +kernel
theorem dX6_turnDown_78 : decode cX6_turnDown 78 = .ok (.aload_n 0, 1) := by decide +kernel
theorem dX6_turnDown_79 : decode cX6_turnDown 79 = .ok (.getfield 36, 3) := by decide +kernel
theorem dX6_turnDown_82 : decode cX6_turnDown 82 = .ok (.aload_n 0, 1) := by decide +kernel
theorem dX6_turnDown_83 : decode cX6_turnDown 83 = .ok (.getfield 30, 3) := by decide +kernel
theorem dX6_turnDown_86 : decode cX6_turnDown 86 = .ok (.invokevirtual 202, 3) := by decide +kernel
theorem dX6_turnDown_89 : decode cX6_turnDown 89 = .ok (.aload_n 0, 1) := by decide +kernel
theorem dX6_turnDown_90 : decode cX6_turnDown 90 = .ok (.getfield 36, 3) := by decide +kernel
theorem dX6_turnDown_93 : decode cX6_turnDown 93 = .ok (.aload_n 0, 1) := by decide +kernel
theorem dX6_turnDown_94 : decode cX6_turnDown 94 = .ok (.getfield 30, 3) := by decide +kernel
theorem dX6_turnDown_97 : decode cX6_turnDown 97 = .ok (.getfield 182, 3) := by decide +kernel
theorem dX6_turnDown_100 : decode cX6_turnDown 100 = .ok (.invokevirtual 236, 3) := by decide +kernel
theorem dX6_turnDown_103 : decode cX6_turnDown 103 = .ok (.istore_n 2, 1) := by decide +kernel
theorem dX6_turnDown_104 : decode cX6_turnDown 104 = .ok (.goto (-65), 3) := by decide +kernel
theorem dX6_turnDown_107 : decode cX6_turnDown 107 = .ok (.iload_n 1, 1) := by decide +kernel
theorem dX6_turnDown_108 : decode cX6_turnDown 108 = .ok (.ireturn, 1) := by decide +kernel
theorem dX6_planAll_0 : decode cX6_planAll 0 = .ok (.aload_n 0, 1) := by decide +kernel
theorem dX6_planAll_1 : decode cX6_planAll 1 = .ok (.getfield 30, 3) := by decide +kernel
theorem dX6_planAll_4 : decode cX6_planAll 4 = .ok (.aload_n 0, 1) := by decide +kernel
theorem dX6_planAll_5 : decode cX6_planAll 5 = .ok (.getfield 26, 3) := by decide +kernel
theorem dX6_planAll_8 : decode cX6_planAll 8 = .ok (.invokevirtual 248, 3) := by decide +kernel
theorem dX6_planAll_11 : decode cX6_planAll 11 = .ok (.aload_n 0, 1) := by decide +kernel
theorem dX6_planAll_12 : decode cX6_planAll 12 = .ok (.getfield 43, 3) := by decide +kernel
theorem dX6_planAll_15 : decode cX6_planAll 15 = .ok (.aload_n 0, 1) := by decide +kernel
theorem dX6_planAll_16 : decode cX6_planAll 16 = .ok (.getfield 36, 3) := by decide +kernel
theorem dX6_planAll_19 : decode cX6_planAll 19 = .ok (.aload_n 0, 1) := by decide +kernel
theorem dX6_planAll_20 : decode cX6_planAll 20 = .ok (.getfield 30, 3) := by decide +kernel
theorem dX6_planAll_23 : decode cX6_planAll 23 = .ok (.aload_n 0, 1) := by decide +kernel
theorem dX6_planAll_24 : decode cX6_planAll 24 = .ok (.getfield 30, 3) := by decide +kernel
theorem dX6_planAll_27 : decode cX6_planAll 27 = .ok (.invokevirtual 258, 3) := by decide +kernel
theorem dX6_planAll_30 : decode cX6_planAll 30 = .ok (.invokevirtual 261, 3) := by decide +kernel
theorem dX6_planAll_33 : decode cX6_planAll 33 = .ok (.ireturn, 1) := by decide +kernel
theorem dX6_planned_0 : decode cX6_planned 0 = .ok (.aload_n 0, 1) := by decide +kernel
theorem dX6_planned_1 : decode cX6_planned 1 = .ok (.getfield 26, 3) := by decide +kernel
theorem dX6_planned_4 : decode cX6_planned 4 = .ok (.iload_n 1, 1) := by decide +kernel
theorem dX6_planned_5 : decode cX6_planned 5 = .ok (.invokevirtual 94, 3) := by decide +kernel
theorem dX6_planned_8 : decode cX6_planned 8 = .ok (.ifCond .ne 5, 3) := by decide +kernel
theorem dX6_planned_11 : decode cX6_planned 11 = .ok (.iconst (-1), 1) := by decide +kernel
theorem dX6_planned_12 : decode cX6_planned 12 = .ok (.ireturn, 1) := by decide +kernel
theorem dX6_planned_13 : decode cX6_planned 13 = .ok (.aload_n 0, 1) := by decide +kernel
theorem dX6_planned_14 : decode cX6_planned 14 = .ok (.getfield 26, 3) := by decide +kernel
theorem dX6_planned_17 : decode cX6_planned 17 = .ok (.getfield 105, 3) := by decide +kernel
theorem dX6_planned_20 : decode cX6_planned 20 = .ok (.iload_n 1, 1) := by decide +kernel
theorem dX6_planned_21 : decode cX6_planned 21 = .ok (.iaload, 1) := by decide +kernel
theorem dX6_planned_22 : decode cX6_planned 22 = .ok (.ifCond .le 6, 3) := by decide +kernel
theorem dX6_planned_25 : decode cX6_planned 25 = .ok (.bipush (-2), 2) := by decide +kernel
theorem dX6_planned_27 : decode cX6_planned 27 = .ok (.ireturn, 1) := by decide +kernel
theorem dX6_planned_28 : decode cX6_planned 28 = .ok (.aload_n 0, 1) := by decide +kernel
theorem dX6_planned_29 : decode cX6_planned 29 = .ok (.invokevirtual 121, 3) := by decide +kernel
theorem dX6_planned_32 : decode cX6_planned 32 = .ok (.istore_n 2, 1) := by decide +kernel
theorem dX6_planned_33 : decode cX6_planned 33 = .ok (.iload_n 2, 1) := by decide +kernel
theorem dX6_planned_34 : decode cX6_planned 34 = .ok (.ifCond .ne 15, 3) := by decide +kernel
theorem dX6_planned_37 : decode cX6_planned 37 = .ok (.aload_n 0, 1) := by decide +kernel
theorem dX6_planned_38 : decode cX6_planned 38 = .ok (.getfield 30, 3) := by decide +kernel
theorem dX6_planned_41 : decode cX6_planned 41 = .ok (.getfield 105, 3) := by decide +kernel
theorem dX6_planned_44 : decode cX6_planned 44 = .ok (.iload_n 1, 1) := by decide +kernel
theorem dX6_planned_45 : decode cX6_planned 45 = .ok (.iaload, 1) := by decide +kernel
theorem dX6_planned_46 : decode cX6_planned 46 = .ok (.goto 4, 3) := by decide +kernel
theorem dX6_planned_49 : decode cX6_planned 49 = .ok (.iload_n 2, 1) := by decide +kernel
theorem dX6_planned_50 : decode cX6_planned 50 = .ok (.ireturn, 1) := by decide +kernel
theorem dX6_mended_0 : decode cX6_mended 0 = .ok (.aload_n 0, 1) := by decide +kernel
theorem dX6_mended_1 : decode cX6_mended 1 = .ok (.invokevirtual 131, 3) := by decide +kernel
theorem dX6_mended_4 : decode cX6_mended 4 = .ok (.ireturn, 1) := by decide +kernel
theorem dX6_findMend_0 : decode cX6_findMend 0 = .ok (.aload_n 0, 1) := by decide +kernel
theorem dX6_findMend_1 : decode cX6_findMend 1 = .ok (.getfield 36, 3) := by decide +kernel
theorem dX6_findMend_4 : decode cX6_findMend 4 = .ok (.aload_n 0, 1) := by decide +kernel
theorem dX6_findMend_5 : decode cX6_findMend 5 = .ok (.getfield 26, 3) := by decide +kernel
theorem dX6_findMend_8 : decode cX6_findMend 8 = .ok (.invokevirtual 251, 3) := by decide +kernel
theorem dX6_findMend_11 : decode cX6_findMend 11 = .ok (.ifCond .eq 5, 3) := by decide +kernel
theorem dX6_findMend_14 : decode cX6_findMend 14 = .ok (.iconst 0, 1) := by decide +kernel
theorem dX6_findMend_15 : decode cX6_findMend 15 = .ok (.ireturn, 1) := by decide +kernel
theorem dX6_findMend_16 : decode cX6_findMend 16 = .ok (.aload_n 0, 1) := by decide +kernel
theorem dX6_findMend_17 : decode cX6_findMend 17 = .ok (.getfield 26, 3) := by decide +kernel
theorem dX6_findMend_20 : decode cX6_findMend 20 = .ok (.invokevirtual 144, 3) := by decide +kernel
theorem dX6_findMend_23 : decode cX6_findMend 23 = .ok (.istore_n 1, 1) := by decide +kernel
theorem dX6_findMend_24 : decode cX6_findMend 24 = .ok (.iconst 1, 1) := by decide +kernel
theorem dX6_findMend_25 : decode cX6_findMend 25 = .ok (.istore_n 2, 1) := by decide +kernel
theorem dX6_findMend_26 : decode cX6_findMend 26 = .ok (.iload_n 2, 1) := by decide +kernel
theorem dX6_findMend_27 : decode cX6_findMend 27 = .ok (.aload_n 0, 1) := by decide +kernel
theorem dX6_findMend_28 : decode cX6_findMend 28 = .ok (.getfield 26, 3) := by decide +kernel
theorem dX6_findMend_31 : decode cX6_findMend 31 = .ok (.getfield 182, 3) := by decide +kernel
theorem dX6_findMend_34 : decode cX6_findMend 34 = .ok (.if_icmp .gt 70, 3) := by decide +kernel
theorem dX6_findMend_37 : decode cX6_findMend 37 = .ok (.iconst 1, 1) := by decide +kernel
theorem dX6_findMend_38 : decode cX6_findMend 38 = .ok (.istore_n 3, 1) := by decide +kernel
theorem dX6_findMend_39 : decode cX6_findMend 39 = .ok (.iload_n 3, 1) := by decide +kernel
theorem dX6_findMend_40 : decode cX6_findMend 40 = .ok (.iload_n 1, 1) := by decide +kernel
theorem dX6_findMend_41 : decode cX6_findMend 41 = .ok (.if_icmp .gt 57, 3) := by decide +kernel
theorem dX6_findMend_44 : decode cX6_findMend 44 = .ok (.iload_n 3, 1) := by decide +kernel
theorem dX6_findMend_45 : decode cX6_findMend 45 = .ok (.invokestatic 147, 3) := by decide +kernel
theorem dX6_findMend_48 : decode cX6_findMend 48 = .ok (.iload_n 2, 1) := by decide +kernel
theorem dX6_findMend_49 : decode cX6_findMend 49 = .ok (.if_icmp .ne 43, 3) := by decide +kernel
theorem dX6_findMend_52 : decode cX6_findMend 52 = .ok (.iload_n 3, 1) := by decide +kernel
theorem dX6_findMend_53 : decode cX6_findMend 53 = .ok (.iload_n 1, 1) := by decide +kernel
theorem dX6_findMend_54 : decode cX6_findMend 54 = .ok (.iconst (-1), 1) := by decide +kernel
theorem dX6_findMend_55 : decode cX6_findMend 55 = .ok (.ixor, 1) := by decide +kernel
theorem dX6_findMend_56 : decode cX6_findMend 56 = .ok (.iand, 1) := by decide +kernel
theorem dX6_findMend_57 : decode cX6_findMend 57 = .ok (.ifCond .ne 35, 3) := by decide +kernel
theorem dX6_findMend_60 : decode cX6_findMend 60 = .ok (.aload_n 0, 1) := by decide +kernel
theorem dX6_findMend_61 : decode cX6_findMend 61 = .ok (.getfield 30, 3) := by decide +kernel
theorem dX6_findMend_64 : decode cX6_findMend 64 = .ok (.aload_n 0, 1) := by decide +kernel
theorem dX6_findMend_65 : decode cX6_findMend 65 = .ok (.getfield 26, 3) := by decide +kernel
theorem dX6_findMend_68 : decode cX6_findMend 68 = .ok (.invokevirtual 248, 3) := by decide +kernel
theorem dX6_findMend_71 : decode cX6_findMend 71 = .ok (.aload_n 0, 1) := by decide +kernel
theorem dX6_findMend_72 : decode cX6_findMend 72 = .ok (.getfield 43, 3) := by decide +kernel
theorem dX6_findMend_75 : decode cX6_findMend 75 = .ok (.aload_n 0, 1) := by decide +kernel
theorem dX6_findMend_76 : decode cX6_findMend 76 = .ok (.getfield 36, 3) := by decide +kernel
theorem dX6_findMend_79 : decode cX6_findMend 79 = .ok (.aload_n 0, 1) := by decide +kernel
theorem dX6_findMend_80 : decode cX6_findMend 80 = .ok (.getfield 30, 3) := by decide +kernel
theorem dX6_findMend_83 : decode cX6_findMend 83 = .ok (.iload_n 3, 1) := by decide +kernel
theorem dX6_findMend_84 : decode cX6_findMend 84 = .ok (.invokevirtual 261, 3) := by decide +kernel
theorem dX6_findMend_87 : decode cX6_findMend 87 = .ok (.ifCond .ne 5, 3) := by decide +kernel
theorem dX6_findMend_90 : decode cX6_findMend 90 = .ok (.iload_n 3, 1) := by decide +kernel
theorem dX6_findMend_91 : decode cX6_findMend 91 = .ok (.ireturn, 1) := by decide +kernel
theorem dX6_findMend_92 : decode cX6_findMend 92 = .ok (.iinc 3 1, 3) := by decide +kernel
theorem dX6_findMend_95 : decode cX6_findMend 95 = .ok (.goto (-56), 3) := by decide +kernel
theorem dX6_findMend_98 : decode cX6_findMend 98 = .ok (.iinc 2 1, 3) := by decide +kernel
theorem dX6_findMend_101 : decode cX6_findMend 101 = .ok (.goto (-75), 3) := by decide +kernel
theorem dX6_findMend_104 : decode cX6_findMend 104 = .ok (.bipush (-2), 2) := by decide +kernel
theorem dX6_findMend_106 : decode cX6_findMend 106 = .ok (.ireturn, 1) := by decide +kernel
theorem dX6_leastBand_0 : decode cX6_leastBand 0 = .ok (.iconst 4, 1) := by decide +kernel
theorem dX6_leastBand_1 : decode cX6_leastBand 1 = .ok (.aload_n 0, 1) := by decide +kernel
theorem dX6_leastBand_2 : decode cX6_leastBand 2 = .ok (.getfield 26, 3) := by decide +kernel
theorem dX6_leastBand_5 : decode cX6_leastBand 5 = .ok (.invokevirtual 278, 3) := by decide +kernel
theorem dX6_leastBand_8 : decode cX6_leastBand 8 = .ok (.invokestatic 281, 3) := by decide +kernel
theorem dX6_leastBand_11 : decode cX6_leastBand 11 = .ok (.istore_n 1, 1) := by decide +kernel
theorem dX6_leastBand_12 : decode cX6_leastBand 12 = .ok (.iload_n 1, 1) := by decide +kernel
theorem dX6_leastBand_13 : decode cX6_leastBand 13 = .ok (.bipush 60, 2) := by decide +kernel
theorem dX6_leastBand_15 : decode cX6_leastBand 15 = .ok (.if_icmp .gt 55, 3) := by decide +kernel
theorem dX6_leastBand_18 : decode cX6_leastBand 18 = .ok (.aload_n 0, 1) := by decide +kernel
theorem dX6_leastBand_19 : decode cX6_leastBand 19 = .ok (.getfield 30, 3) := by decide +kernel
theorem dX6_leastBand_22 : decode cX6_leastBand 22 = .ok (.aload_n 0, 1) := by decide +kernel
theorem dX6_leastBand_23 : decode cX6_leastBand 23 = .ok (.getfield 26, 3) := by decide +kernel
theorem dX6_leastBand_26 : decode cX6_leastBand 26 = .ok (.invokevirtual 248, 3) := by decide +kernel
theorem dX6_leastBand_29 : decode cX6_leastBand 29 = .ok (.aload_n 0, 1) := by decide +kernel
theorem dX6_leastBand_30 : decode cX6_leastBand 30 = .ok (.getfield 30, 3) := by decide +kernel
theorem dX6_leastBand_33 : decode cX6_leastBand 33 = .ok (.iload_n 1, 1) := by decide +kernel
theorem dX6_leastBand_34 : decode cX6_leastBand 34 = .ok (.invokevirtual 286, 3) := by decide +kernel
theorem dX6_leastBand_37 : decode cX6_leastBand 37 = .ok (.aload_n 0, 1) := by decide +kernel
theorem dX6_leastBand_38 : decode cX6_leastBand 38 = .ok (.getfield 43, 3) := by decide +kernel
theorem dX6_leastBand_41 : decode cX6_leastBand 41 = .ok (.aload_n 0, 1) := by decide +kernel
theorem dX6_leastBand_42 : decode cX6_leastBand 42 = .ok (.getfield 36, 3) := by decide +kernel
theorem dX6_leastBand_45 : decode cX6_leastBand 45 = .ok (.aload_n 0, 1) := by decide +kernel
theorem dX6_leastBand_46 : decode cX6_leastBand 46 = .ok (.getfield 30, 3) := by decide +kernel
theorem dX6_leastBand_49 : decode cX6_leastBand 49 = .ok (.aload_n 0, 1) := by decide +kernel
theorem dX6_leastBand_50 : decode cX6_leastBand 50 = .ok (.getfield 30, 3) := by decide +kernel
theorem dX6_leastBand_53 : decode cX6_leastBand 53 = .ok (.invokevirtual 289, 3) := by decide +kernel
theorem dX6_leastBand_56 : decode cX6_leastBand 56 = .ok (.invokevirtual 261, 3) := by decide +kernel
theorem dX6_leastBand_59 : decode cX6_leastBand 59 = .ok (.ifCond .ne 5, 3) := by decide +kernel
theorem dX6_leastBand_62 : decode cX6_leastBand 62 = .ok (.iload_n 1, 1) := by decide +kernel
theorem dX6_leastBand_63 : decode cX6_leastBand 63 = .ok (.ireturn, 1) := by decide +kernel
theorem dX6_leastBand_64 : decode cX6_leastBand 64 = .ok (.iinc 1 1, 3) := by decide +kernel
theorem dX6_leastBand_67 : decode cX6_leastBand 67 = .ok (.goto (-55), 3) := by decide +kernel
theorem dX6_leastBand_70 : decode cX6_leastBand 70 = .ok (.bipush (-2), 2) := by decide +kernel
theorem dX6_leastBand_72 : decode cX6_leastBand 72 = .ok (.ireturn, 1) := by decide +kernel
theorem dX6_grown_0 : decode cX6_grown 0 = .ok (.iload_n 1, 1) := by decide +kernel
theorem dX6_grown_1 : decode cX6_grown 1 = .ok (.ifCond .lt 18, 3) := by decide +kernel
theorem dX6_grown_4 : decode cX6_grown 4 = .ok (.iload_n 1, 1) := by decide +kernel
theorem dX6_grown_5 : decode cX6_grown 5 = .ok (.bipush 7, 2) := by decide +kernel
theorem dX6_grown_7 : decode cX6_grown 7 = .ok (.if_icmp .gt 12, 3) := by decide +kernel
theorem dX6_grown_10 : decode cX6_grown 10 = .ok (.iload_n 2, 1) := by decide +kernel
theorem dX6_grown_11 : decode cX6_grown 11 = .ok (.ifCond .lt 8, 3) := by decide +kernel
theorem dX6_grown_14 : decode cX6_grown 14 = .ok (.iload_n 2, 1) := by decide +kernel
theorem dX6_grown_15 : decode cX6_grown 15 = .ok (.iconst 5, 1) := by decide +kernel
theorem dX6_grown_16 : decode cX6_grown 16 = .ok (.if_icmp .le 5, 3) := by decide +kernel
theorem dX6_grown_19 : decode cX6_grown 19 = .ok (.iconst (-1), 1) := by decide +kernel
theorem dX6_grown_20 : decode cX6_grown 20 = .ok (.ireturn, 1) := by decide +kernel
theorem dX6_grown_21 : decode cX6_grown 21 = .ok (.iload_n 3, 1) := by decide +kernel
theorem dX6_grown_22 : decode cX6_grown 22 = .ok (.iconst 1, 1) := by decide +kernel
theorem dX6_grown_23 : decode cX6_grown 23 = .ok (.if_icmp .lt 14, 3) := by decide +kernel
theorem dX6_grown_26 : decode cX6_grown 26 = .ok (.iload_n 3, 1) := by decide +kernel
theorem dX6_grown_27 : decode cX6_grown 27 = .ok (.bipush 20, 2) := by decide +kernel
theorem dX6_grown_29 : decode cX6_grown 29 = .ok (.if_icmp .gt 8, 3) := by decide +kernel
theorem dX6_grown_32 : decode cX6_grown 32 = .ok (.iload 4, 2) := by decide +kernel
theorem dX6_grown_34 : decode cX6_grown 34 = .ok (.ifCond .ge 5, 3) := by decide +kernel
theorem dX6_grown_37 : decode cX6_grown 37 = .ok (.iconst (-1), 1) := by decide +kernel
theorem dX6_grown_38 : decode cX6_grown 38 = .ok (.ireturn, 1) := by decide +kernel
theorem dX6_grown_39 : decode cX6_grown 39 = .ok (.iload 4, 2) := by decide +kernel
theorem dX6_grown_41 : decode cX6_grown 41 = .ok (.bipush 8, 2) := by decide +kernel
theorem dX6_grown_43 : decode cX6_grown 43 = .ok (.if_icmp .lt 6, 3) := by decide +kernel
theorem dX6_grown_46 : decode cX6_grown 46 = .ok (.bipush (-2), 2) := by decide +kernel
theorem dX6_grown_48 : decode cX6_grown 48 = .ok (.ireturn, 1) := by decide +kernel
theorem dX6_grown_49 : decode cX6_grown 49 = .ok (.aload_n 0, 1) := by decide +kernel
theorem dX6_grown_50 : decode cX6_grown 50 = .ok (.getfield 30, 3) := by decide +kernel
theorem dX6_grown_53 : decode cX6_grown 53 = .ok (.iload_n 1, 1) := by decide +kernel
theorem dX6_grown_54 : decode cX6_grown 54 = .ok (.iload_n 2, 1) := by decide +kernel
theorem dX6_grown_55 : decode cX6_grown 55 = .ok (.iload_n 3, 1) := by decide +kernel
theorem dX6_grown_56 : decode cX6_grown 56 = .ok (.invokevirtual 292, 3) := by decide +kernel
theorem dX6_grown_59 : decode cX6_grown 59 = .ok (.iconst 0, 1) := by decide +kernel
theorem dX6_grown_60 : decode cX6_grown 60 = .ok (.istore 5, 2) := by decide +kernel
theorem dX6_grown_62 : decode cX6_grown 62 = .ok (.iconst 0, 1) := by decide +kernel
theorem dX6_grown_63 : decode cX6_grown 63 = .ok (.istore 6, 2) := by decide +kernel
theorem dX6_grown_65 : decode cX6_grown 65 = .ok (.iload 6, 2) := by decide +kernel
theorem dX6_grown_67 : decode cX6_grown 67 = .ok (.iload 4, 2) := by decide +kernel
theorem dX6_grown_69 : decode cX6_grown 69 = .ok (.if_icmp .gt 24, 3) := by decide +kernel
theorem dX6_grown_72 : decode cX6_grown 72 = .ok (.iload 5, 2) := by decide +kernel
theorem dX6_grown_74 : decode cX6_grown 74 = .ok (.ifCond .lt 19, 3) := by decide +kernel
theorem dX6_grown_77 : decode cX6_grown 77 = .ok (.aload_n 0, 1) := by decide +kernel
theorem dX6_grown_78 : decode cX6_grown 78 = .ok (.iload 6, 2) := by decide +kernel
theorem dX6_grown_80 : decode cX6_grown 80 = .ok (.iload 5, 2) := by decide +kernel
theorem dX6_grown_82 : decode cX6_grown 82 = .ok (.invokevirtual 296, 3) := by decide +kernel
theorem dX6_grown_85 : decode cX6_grown 85 = .ok (.istore 5, 2) := by decide +kernel
theorem dX6_grown_87 : decode cX6_grown 87 = .ok (.iinc 6 1, 3) := by decide +kernel
theorem dX6_grown_90 : decode cX6_grown 90 = .ok (.goto (-25), 3) := by decide +kernel
theorem dX6_grown_93 : decode cX6_grown 93 = .ok (.iload 5, 2) := by decide +kernel
theorem dX6_grown_95 : decode cX6_grown 95 = .ok (.ireturn, 1) := by decide +kernel
theorem dX6_growTrial_0 : decode cX6_growTrial 0 = .ok (.aload_n 0, 1) := by decide +kernel
theorem dX6_growTrial_1 : decode cX6_growTrial 1 = .ok (.getfield 30, 3) := by decide +kernel
theorem dX6_growTrial_4 : decode cX6_growTrial 4 = .ok (.iload_n 1, 1) := by decide +kernel
theorem dX6_growTrial_5 : decode cX6_growTrial 5 = .ok (.iconst 1, 1) := by decide +kernel
theorem dX6_growTrial_6 : decode cX6_growTrial 6 = .ok (.iadd, 1) := by decide +kernel
theorem dX6_growTrial_7 : decode cX6_growTrial 7 = .ok (.putfield 182, 3) := by decide +kernel
theorem dX6_growTrial_10 : decode cX6_growTrial 10 = .ok (.iload_n 2, 1) := by decide +kernel
theorem dX6_growTrial_11 : decode cX6_growTrial 11 = .ok (.iconst 1, 1) := by decide +kernel
theorem dX6_growTrial_12 : decode cX6_growTrial 12 = .ok (.iadd, 1) := by decide +kernel
theorem dX6_growTrial_13 : decode cX6_growTrial 13 = .ok (.istore_n 3, 1) := by decide +kernel
theorem dX6_growTrial_14 : decode cX6_growTrial 14 = .ok (.iload_n 3, 1) := by decide +kernel
theorem dX6_growTrial_15 : decode cX6_growTrial 15 = .ok (.bipush 60, 2) := by decide +kernel
theorem dX6_growTrial_17 : decode cX6_growTrial 17 = .ok (.if_icmp .gt 20, 3) := by decide +kernel
theorem dX6_growTrial_20 : decode cX6_growTrial 20 = .ok (.aload_n 0, 1) := by decide +kernel
theorem dX6_growTrial_21 : decode cX6_growTrial 21 = .ok (.iload_n 1, 1) := by decide +kernel
theorem dX6_growTrial_22 : decode cX6_growTrial 22 = .ok (.iload_n 3, 1) := by decide +kernel
theorem dX6_growTrial_23 : decode cX6_growTrial 23 = .ok (.invokevirtual 254, 3) := by decide +kernel
theorem dX6_growTrial_26 : decode cX6_growTrial 26 = .ok (.ifCond .eq 5, 3) := by decide +kernel
theorem dX6_growTrial_29 : decode cX6_growTrial 29 = .ok (.iload_n 3, 1) := by decide +kernel
theorem dX6_growTrial_30 : decode cX6_growTrial 30 = .ok (.ireturn, 1) := by decide +kernel
theorem dX6_growTrial_31 : decode cX6_growTrial 31 = .ok (.iinc 3 1, 3) := by decide +kernel
theorem dX6_growTrial_34 : decode cX6_growTrial 34 = .ok (.goto (-20), 3) := by decide +kernel
theorem dX6_growTrial_37 : decode cX6_growTrial 37 = .ok (.bipush (-2), 2) := by decide +kernel
theorem dX6_growTrial_39 : decode cX6_growTrial 39 = .ok (.ireturn, 1) := by decide +kernel
