theorem dX6_chance_0 : decode cX6_chance 0 = .ok (.iload_n 1, 1) := by decide +kernel
theorem dX6_chance_1 : decode cX6_chance 1 = .ok (.iconst (-1), 1) := by decide +kernel
theorem dX6_chance_2 : decode cX6_chance 2 = .ok (.if_icmp .lt 23, 3) := by decide +kernel
theorem dX6_chance_5 : decode cX6_chance 5 = .ok (.iload_n 2, 1) := by decide +kernel
theorem dX6_chance_6 : decode cX6_chance 6 = .ok (.iconst 1, 1) := by decide +kernel
theorem dX6_chance_7 : decode cX6_chance 7 = .ok (.if_icmp .lt 18, 3) := by decide +kernel
theorem dX6_chance_10 : decode cX6_chance 10 = .ok (.iload_n 2, 1) := by decide +kernel
theorem dX6_chance_11 : decode cX6_chance 11 = .ok (.bipush 20, 2) := by decide +kernel
theorem dX6_chance_13 : decode cX6_chance 13 = .ok (.if_icmp .gt 12, 3) := by decide +kernel
theorem dX6_chance_16 : decode cX6_chance 16 = .ok (.iload_n 3, 1) := by decide +kernel
theorem dX6_chance_17 : decode cX6_chance 17 = .ok (.ifCond .lt 8, 3) := by decide +kernel
theorem dX6_chance_20 : decode cX6_chance 20 = .ok (.iload_n 3, 1) := by decide +kernel
theorem dX6_chance_21 : decode cX6_chance 21 = .ok (.iconst 2, 1) := by decide +kernel
theorem dX6_chance_22 : decode cX6_chance 22 = .ok (.if_icmp .le 5, 3) := by decide +kernel
theorem dX6_chance_25 : decode cX6_chance 25 = .ok (.iconst (-1), 1) := by decide +kernel
theorem dX6_chance_26 : decode cX6_chance 26 = .ok (.ireturn, 1) := by decide +kernel
theorem dX6_chance_27 : decode cX6_chance 27 = .ok (.aload_n 0, 1) := by decide +kernel
theorem dX6_chance_28 : decode cX6_chance 28 = .ok (.getfield 30, 3) := by decide +kernel
theorem dX6_chance_31 : decode cX6_chance 31 = .ok (.aload_n 0, 1) := by decide +kernel
theorem dX6_chance_32 : decode cX6_chance 32 = .ok (.getfield 26, 3) := by decide +kernel
theorem dX6_chance_35 : decode cX6_chance 35 = .ok (.invokevirtual 248, 3) := by decide +kernel
theorem dX6_chance_38 : decode cX6_chance 38 = .ok (.iload_n 1, 1) := by decide +kernel
theorem dX6_chance_39 : decode cX6_chance 39 = .ok (.iconst (-1), 1) := by decide +kernel
theorem dX6_chance_40 : decode cX6_chance 40 = .ok (.if_icmp .ne 13, 3) := by decide +kernel
theorem dX6_chance_43 : decode cX6_chance 43 = .ok (.aload_n 0, 1) := by decide +kernel
theorem dX6_chance_44 : decode cX6_chance 44 = .ok (.getfield 26, 3) := by decide +kernel
theorem dX6_chance_47 : decode cX6_chance 47 = .ok (.getfield 299, 3) := by decide +kernel
theorem dX6_chance_50 : decode cX6_chance 50 = .ok (.goto 4, 3) := by decide +kernel
theorem dX6_chance_53 : decode cX6_chance 53 = .ok (.iload_n 1, 1) := by decide +kernel
theorem dX6_chance_54 : decode cX6_chance 54 = .ok (.istore 4, 2) := by decide +kernel
theorem dX6_chance_56 : decode cX6_chance 56 = .ok (.iconst 0, 1) := by decide +kernel
theorem dX6_chance_57 : decode cX6_chance 57 = .ok (.istore 5, 2) := by decide +kernel
theorem dX6_chance_59 : decode cX6_chance 59 = .ok (.iconst 0, 1) := by decide +kernel
theorem dX6_chance_60 : decode cX6_chance 60 = .ok (.istore 6, 2) := by decide +kernel
theorem dX6_chance_62 : decode cX6_chance 62 = .ok (.iload 6, 2) := by decide +kernel
theorem dX6_chance_64 : decode cX6_chance 64 = .ok (.iload_n 2, 1) := by decide +kernel
theorem dX6_chance_65 : decode cX6_chance 65 = .ok (.if_icmp .ge 53, 3) := by decide +kernel
theorem dX6_chance_68 : decode cX6_chance 68 = .ok (.iload 4, 2) := by decide +kernel
theorem dX6_chance_70 : decode cX6_chance 70 = .ok (.ldc_w 302, 3) := by decide +kernel
theorem dX6_chance_73 : decode cX6_chance 73 = .ok (.imul, 1) := by decide +kernel
theorem dX6_chance_74 : decode cX6_chance 74 = .ok (.sipush 12345, 3) := by decide +kernel
theorem dX6_chance_77 : decode cX6_chance 77 = .ok (.iadd, 1) := by decide +kernel
theorem dX6_chance_78 : decode cX6_chance 78 = .ok (.ldc_w 303, 3) := by decide +kernel
theorem dX6_chance_81 : decode cX6_chance 81 = .ok (.iand, 1) := by decide +kernel
theorem dX6_chance_82 : decode cX6_chance 82 = .ok (.istore 4, 2) := by decide +kernel
theorem dX6_chance_84 : decode cX6_chance 84 = .ok (.iload 5, 2) := by decide +kernel
theorem dX6_chance_86 : decode cX6_chance 86 = .ok (.aload_n 0, 1) := by decide +kernel
theorem dX6_chance_87 : decode cX6_chance 87 = .ok (.iload 4, 2) := by decide +kernel
theorem dX6_chance_89 : decode cX6_chance 89 = .ok (.bipush 16, 2) := by decide +kernel
theorem dX6_chance_91 : decode cX6_chance 91 = .ok (.ishr, 1) := by decide +kernel
theorem dX6_chance_92 : decode cX6_chance 92 = .ok (.iconst 1, 1) := by decide +kernel
theorem dX6_chance_93 : decode cX6_chance 93 = .ok (.aload_n 0, 1) := by decide +kernel
theorem dX6_chance_94 : decode cX6_chance 94 = .ok (.getfield 30, 3) := by decide +kernel
theorem dX6_chance_97 : decode cX6_chance 97 = .ok (.getfield 185, 3) := by decide +kernel
theorem dX6_chance_100 : decode cX6_chance 100 = .ok (.invokestatic 281, 3) := by decide +kernel
theorem dX6_chance_103 : decode cX6_chance 103 = .ok (.irem, 1) := by decide +kernel
theorem dX6_chance_104 : decode cX6_chance 104 = .ok (.iconst 1, 1) := by decide +kernel
theorem dX6_chance_105 : decode cX6_chance 105 = .ok (.iadd, 1) := by decide +kernel
theorem dX6_chance_106 : decode cX6_chance 106 = .ok (.invokevirtual 304, 3) := by decide +kernel
theorem dX6_chance_109 : decode cX6_chance 109 = .ok (.iadd, 1) := by decide +kernel
theorem dX6_chance_110 : decode cX6_chance 110 = .ok (.istore 5, 2) := by decide +kernel
theorem dX6_chance_112 : decode cX6_chance 112 = .ok (.iinc 6 1, 3) := by decide +kernel
theorem dX6_chance_115 : decode cX6_chance 115 = .ok (.goto (-53), 3) := by decide +kernel
theorem dX6_chance_118 : decode cX6_chance 118 = .ok (.iload_n 3, 1) := by decide +kernel
theorem dX6_chance_119 : decode cX6_chance 119 = .ok (.ifCond .ne 14, 3) := by decide +kernel
theorem dX6_chance_122 : decode cX6_chance 122 = .ok (.aload_n 0, 1) := by decide +kernel
theorem dX6_chance_123 : decode cX6_chance 123 = .ok (.getfield 30, 3) := by decide +kernel
theorem dX6_chance_126 : decode cX6_chance 126 = .ok (.invokevirtual 144, 3) := by decide +kernel
theorem dX6_chance_129 : decode cX6_chance 129 = .ok (.invokestatic 147, 3) := by decide +kernel
theorem dX6_chance_132 : decode cX6_chance 132 = .ok (.ireturn, 1) := by decide +kernel
theorem dX6_chance_133 : decode cX6_chance 133 = .ok (.iload_n 3, 1) := by decide +kernel
theorem dX6_chance_134 : decode cX6_chance 134 = .ok (.iconst 1, 1) := by decide +kernel
theorem dX6_chance_135 : decode cX6_chance 135 = .ok (.if_icmp .ne 6, 3) := by decide +kernel
theorem dX6_chance_138 : decode cX6_chance 138 = .ok (.iload 5, 2) := by decide +kernel
theorem dX6_chance_140 : decode cX6_chance 140 = .ok (.ireturn, 1) := by decide +kernel
theorem dX6_chance_141 : decode cX6_chance 141 = .ok (.aload_n 0, 1) := by decide +kernel
theorem dX6_chance_142 : decode cX6_chance 142 = .ok (.getfield 36, 3) := by decide +kernel
theorem dX6_chance_145 : decode cX6_chance 145 = .ok (.aload_n 0, 1) := by decide +kernel
theorem dX6_chance_146 : decode cX6_chance 146 = .ok (.getfield 30, 3) := by decide +kernel
theorem dX6_chance_149 : decode cX6_chance 149 = .ok (.invokevirtual 251, 3) := by decide +kernel
theorem dX6_chance_152 : decode cX6_chance 152 = .ok (.ifCond .eq 7, 3) := by decide +kernel
theorem dX6_chance_155 : decode cX6_chance 155 = .ok (.iconst 1, 1) := by decide +kernel
theorem dX6_chance_156 : decode cX6_chance 156 = .ok (.goto 4, 3) := by decide +kernel
theorem dX6_chance_159 : decode cX6_chance 159 = .ok (.iconst 0, 1) := by decide +kernel
theorem dX6_chance_160 : decode cX6_chance 160 = .ok (.ireturn, 1) := by decide +kernel
theorem dX6_loseOnTrial_0 : decode cX6_loseOnTrial 0 = .ok (.aload_n 0, 1) := by decide +kernel
theorem dX6_loseOnTrial_1 : decode cX6_loseOnTrial 1 = .ok (.getfield 30, 3) := by decide +kernel
theorem dX6_loseOnTrial_4 : decode cX6_loseOnTrial 4 = .ok (.dup, 1) := by decide +kernel
theorem dX6_loseOnTrial_5 : decode cX6_loseOnTrial 5 = .ok (.getfield 108, 3) := by decide +kernel
theorem dX6_loseOnTrial_8 : decode cX6_loseOnTrial 8 = .ok (.lconst 1, 1) := by decide +kernel
theorem dX6_loseOnTrial_9 : decode cX6_loseOnTrial 9 = .ok (.iload_n 1, 1) := by decide +kernel
theorem dX6_loseOnTrial_10 : decode cX6_loseOnTrial 10 = .ok (.lshl, 1) := by decide +kernel
theorem dX6_loseOnTrial_11 : decode cX6_loseOnTrial 11 = .ok (.lor, 1) := by decide +kernel
theorem dX6_loseOnTrial_12 : decode cX6_loseOnTrial 12 = .ok (.putfield 108, 3) := by decide +kernel
theorem dX6_loseOnTrial_15 : decode cX6_loseOnTrial 15 = .ok (.iconst 0, 1) := by decide +kernel
theorem dX6_loseOnTrial_16 : decode cX6_loseOnTrial 16 = .ok (.istore_n 2, 1) := by decide +kernel
theorem dX6_loseOnTrial_17 : decode cX6_loseOnTrial 17 = .ok (.iconst 0, 1) := by decide +kernel
theorem dX6_loseOnTrial_18 : decode cX6_loseOnTrial 18 = .ok (.istore_n 3, 1) := by decide +kernel
theorem dX6_loseOnTrial_19 : decode cX6_loseOnTrial 19 = .ok (.iload_n 3, 1) := by decide +kernel
theorem dX6_loseOnTrial_20 : decode cX6_loseOnTrial 20 = .ok (.aload_n 0, 1) := by decide +kernel
theorem dX6_loseOnTrial_21 : decode cX6_loseOnTrial 21 = .ok (.getfield 30, 3) := by decide +kernel
theorem dX6_loseOnTrial_24 : decode cX6_loseOnTrial 24 = .ok (.getfield 182, 3) := by decide +kernel
theorem dX6_loseOnTrial_27 : decode cX6_loseOnTrial 27 = .ok (.if_icmp .ge 44, 3) := by decide +kernel
theorem dX6_loseOnTrial_30 : decode cX6_loseOnTrial 30 = .ok (.aload_n 0, 1) := by decide +kernel
theorem dX6_loseOnTrial_31 : decode cX6_loseOnTrial 31 = .ok (.getfield 30, 3) := by decide +kernel
theorem dX6_loseOnTrial_34 : decode cX6_loseOnTrial 34 = .ok (.getfield 105, 3) := by decide +kernel
theorem dX6_loseOnTrial_37 : decode cX6_loseOnTrial 37 = .ok (.iload_n 3, 1) := by decide +kernel
theorem dX6_loseOnTrial_38 : decode cX6_loseOnTrial 38 = .ok (.iaload, 1) := by decide +kernel
theorem dX6_loseOnTrial_39 : decode cX6_loseOnTrial 39 = .ok (.iload_n 1, 1) := by decide +kernel
theorem dX6_loseOnTrial_40 : decode cX6_loseOnTrial 40 = .ok (.if_icmp .ne 25, 3) := by decide +kernel
theorem dX6_loseOnTrial_43 : decode cX6_loseOnTrial 43 = .ok (.iinc 2 1, 3) := by decide +kernel
theorem dX6_loseOnTrial_46 : decode cX6_loseOnTrial 46 = .ok (.aload_n 0, 1) := by decide +kernel
theorem dX6_loseOnTrial_47 : decode cX6_loseOnTrial 47 = .ok (.getfield 43, 3) := by decide +kernel
theorem dX6_loseOnTrial_50 : decode cX6_loseOnTrial 50 = .ok (.aload_n 0, 1) := by decide +kernel
theorem dX6_loseOnTrial_51 : decode cX6_loseOnTrial 51 = .ok (.getfield 36, 3) := by decide +kernel
theorem dX6_loseOnTrial_54 : decode cX6_loseOnTrial 54 = .ok (.aload_n 0, 1) := by decide +kernel
theorem dX6_loseOnTrial_55 : decode cX6_loseOnTrial 55 = .ok (.getfield 30, 3) := by decide +kernel
theorem dX6_loseOnTrial_58 : decode cX6_loseOnTrial 58 = .ok (.iconst 1, 1) := by decide +kernel
theorem dX6_loseOnTrial_59 : decode cX6_loseOnTrial 59 = .ok (.iload_n 3, 1) := by decide +kernel
theorem dX6_loseOnTrial_60 : decode cX6_loseOnTrial 60 = .ok (.ishl, 1) := by decide +kernel
theorem dX6_loseOnTrial_61 : decode cX6_loseOnTrial 61 = .ok (.invokevirtual 261, 3) := by decide +kernel
theorem dX6_loseOnTrial_64 : decode cX6_loseOnTrial 64 = .ok (.pop, 1) := by decide +kernel
theorem dX6_loseOnTrial_65 : decode cX6_loseOnTrial 65 = .ok (.iinc 3 1, 3) := by decide +kernel
theorem dX6_loseOnTrial_68 : decode cX6_loseOnTrial 68 = .ok (.goto (-49), 3) := by decide +kernel
theorem dX6_loseOnTrial_71 : decode cX6_loseOnTrial 71 = .ok (.iload_n 2, 1) := by decide +kernel
theorem dX6_loseOnTrial_72 : decode cX6_loseOnTrial 72 = .ok (.ireturn, 1) := by decide +kernel
theorem dX7_init_0 : decode cX7_init 0 = .ok (.aload_n 0, 1) := by decide +kernel
theorem dX7_init_1 : decode cX7_init 1 = .ok (.invokespecial 1, 3) := by decide +kernel
theorem dX7_init_4 : decode cX7_init 4 = .ok (.aload_n 0, 1) := by decide +kernel
theorem dX7_init_5 : decode cX7_init 5 = .ok (.sipush 700, 3) := by decide +kernel
theorem dX7_init_8 : decode cX7_init 8 = .ok (.newarray .int, 2) := by decide +kernel
theorem dX7_init_10 : decode cX7_init 10 = .ok (.putfield 7, 3) := by decide +kernel
theorem dX7_init_13 : decode cX7_init 13 = .ok (.aload_n 0, 1) := by decide +kernel
theorem dX7_init_14 : decode cX7_init 14 = .ok (.bipush 20, 2) := by decide +kernel
theorem dX7_init_16 : decode cX7_init 16 = .ok (.newarray .int, 2) := by decide +kernel
theorem dX7_init_18 : decode cX7_init 18 = .ok (.putfield 13, 3) := by decide +kernel
theorem dX7_init_21 : decode cX7_init 21 = .ok (.aload_n 0, 1) := by decide +kernel
theorem dX7_init_22 : decode cX7_init 22 = .ok (.bipush 11, 2) := by decide +kernel
theorem dX7_init_24 : decode cX7_init 24 = .ok (.newarray .boolean, 2) := by decide +kernel
theorem dX7_init_26 : decode cX7_init 26 = .ok (.putfield 16, 3) := by decide +kernel
theorem dX7_init_29 : decode cX7_init 29 = .ok (.aload_n 0, 1) := by decide +kernel
theorem dX7_init_30 : decode cX7_init 30 = .ok (.bipush 12, 2) := by decide +kernel
theorem dX7_init_32 : decode cX7_init 32 = .ok (.newarray .int, 2) := by decide +kernel
theorem dX7_init_34 : decode cX7_init 34 = .ok (.putfield 20, 3) := by decide +kernel
theorem dX7_init_37 : decode cX7_init 37 = .ok (.aload_n 0, 1) := by decide +kernel
theorem dX7_init_38 : decode cX7_init 38 = .ok (.bipush 12, 2) := by decide +kernel
theorem dX7_init_40 : decode cX7_init 40 = .ok (.newarray .int, 2) := by decide +kernel
theorem dX7_init_42 : decode cX7_init 42 = .ok (.putfield 23, 3) := by decide +kernel
theorem dX7_init_45 : decode cX7_init 45 = .ok (.aload_n 0, 1) := by decide +kernel
theorem dX7_init_46 : decode cX7_init 46 = .ok (.bipush 12, 2) := by decide +kernel
theorem dX7_init_48 : decode cX7_init 48 = .ok (.newarray .int, 2) := by decide +kernel
theorem dX7_init_50 : decode cX7_init 50 = .ok (.putfield 26, 3) := by decide +kernel
theorem dX7_init_53 : decode cX7_init 53 = .ok (.aload_n 0, 1) := by decide +kernel
theorem dX7_init_54 : decode cX7_init 54 = .ok (.bipush 12, 2) := by decide +kernel
theorem dX7_init_56 : decode cX7_init 56 = .ok (.newarray .int, 2) := by decide +kernel
theorem dX7_init_58 : decode cX7_init 58 = .ok (.putfield 29, 3) := by decide +kernel
theorem dX7_init_61 : decode cX7_init 61 = .ok (.aload_n 0, 1) := by decide +kernel
theorem dX7_init_62 : decode cX7_init 62 = .ok (.bipush 12, 2) := by decide +kernel
theorem dX7_init_64 : decode cX7_init 64 = .ok (.newarray .int, 2) := by decide +kernel
theorem dX7_init_66 : decode cX7_init 66 = .ok (.putfield 32, 3) := by decide +kernel
theorem dX7_init_69 : decode cX7_init 69 = .ok (.aload_n 0, 1) := by decide +kernel
theorem dX7_init_70 : decode cX7_init 70 = .ok (.bipush 12, 2) := by decide +kernel
theorem dX7_init_72 : decode cX7_init 72 = .ok (.newarray .int, 2) := by decide +kernel
theorem dX7_init_74 : decode cX7_init 74 = .ok (.putfield 35, 3) := by decide +kernel
theorem dX7_init_77 : decode cX7_init 77 = .ok (.aload_n 0, 1) := by decide +kernel
theorem dX7_init_78 : decode cX7_init 78 = .ok (.bipush 12, 2) := by decide +kernel
theorem dX7_init_80 : decode cX7_init 80 = .ok (.newarray .int, 2) := by decide +kernel
theorem dX7_init_82 : decode cX7_init 82 = .ok (.putfield 38, 3) := by decide +kernel
theorem dX7_init_85 : decode cX7_init 85 = .ok (.aload_n 0, 1) := by decide +kernel
theorem dX7_init_86 : decode cX7_init 86 = .ok (.bipush 18, 2) := by decide +kernel
theorem dX7_init_88 : decode cX7_init 88 = .ok (.newarray .int, 2) := by decide +kernel
theorem dX7_init_90 : decode cX7_init 90 = .ok (.putfield 41, 3) := by decide +kernel
theorem dX7_init_93 : decode cX7_init 93 = .ok (.aload_n 0, 1) := by decide +kernel
theorem dX7_init_94 : decode cX7_init 94 = .ok (.bipush 122, 2) := by decide +kernel
theorem dX7_init_96 : decode cX7_init 96 = .ok (.newarray .boolean, 2) := by decide +kernel
theorem dX7_init_98 : decode cX7_init 98 = .ok (.putfield 44, 3) := by decide +kernel
theorem dX7_init_101 : decode cX7_init 101 = .ok (.aload_n 0, 1) := by decide +kernel
theorem dX7_init_102 : decode cX7_init 102 = .ok (.iconst (-1), 1) := by decide +kernel
theorem dX7_init_103 : decode cX7_init 103 = .ok (.putfield 47, 3) := by decide +kernel
theorem dX7_init_106 : decode cX7_init 106 = .ok (.aload_n 0, 1) := by decide +kernel
theorem dX7_init_107 : decode cX7_init 107 = .ok (.bipush 79, 2) := by decide +kernel
theorem dX7_init_109 : decode cX7_init 109 = .ok (.newarray .int, 2) := by decide +kernel
theorem dX7_init_111 : decode cX7_init 111 = .ok (.putfield 51, 3) := by decide +kernel
theorem dX7_init_114 : decode cX7_init 114 = .ok (.aload_n 0, 1) := by decide +kernel
theorem dX7_init_115 : decode cX7_init 115 = .ok (.sipush 1659, 3) := by decide +kernel
theorem dX7_init_118 : decode cX7_init 118 = .ok (.newarray .int, 2) := by decide +kernel
theorem dX7_init_120 : decode cX7_init 120 = .ok (.putfield 54, 3) := by decide +kernel
theorem dX7_init_123 : decode cX7_init 123 = .ok (.aload_n 0, 1) := by decide +kernel
theorem dX7_init_124 : decode cX7_init 124 = .ok (.bipush 79, 2) := by decide +kernel
theorem dX7_init_126 : decode cX7_init 126 = .ok (.newarray .int, 2) := by decide +kernel
theorem dX7_init_128 : decode cX7_init 128 = .ok (.putfield 57, 3) := by decide +kernel
theorem dX7_init_131 : decode cX7_init 131 = .ok (.aload_n 0, 1) := by decide +kernel
theorem dX7_init_132 : decode cX7_init 132 = .ok (.sipush 300, 3) := by decide +kernel
theorem dX7_init_135 : decode cX7_init 135 = .ok (.newarray .int, 2) := by decide +kernel
theorem dX7_init_137 : decode cX7_init 137 = .ok (.putfield 60, 3) := by decide +kernel
theorem dX7_init_140 : decode cX7_init 140 = .ok (.aload_n 0, 1) := by decide +kernel
theorem dX7_init_141 : decode cX7_init 141 = .ok (.sipush 300, 3) := by decide +kernel
theorem dX7_init_144 : decode cX7_init 144 = .ok (.newarray .int, 2) := by decide +kernel
theorem dX7_init_146 : decode cX7_init 146 = .ok (.putfield 63, 3) := by decide +kernel
theorem dX7_init_149 : decode cX7_init 149 = .ok (.aload_n 0, 1) := by decide +kernel
theorem dX7_init_150 : decode cX7_init 150 = .ok (.sipush 300, 3) := by decide +kernel
theorem dX7_init_153 : decode cX7_init 153 = .ok (.newarray .int, 2) := by decide +kernel
theorem dX7_init_155 : decode cX7_init 155 = .ok (.putfield 66, 3) := by decide +kernel
theorem dX7_init_158 : decode cX7_init 158 = .ok (.aload_n 0, 1) := by decide +kernel
theorem dX7_init_159 : decode cX7_init 159 = .ok (.sipush 300, 3) := by decide +kernel
theorem dX7_init_162 : decode cX7_init 162 = .ok (.newarray .int, 2) := by decide +kernel
theorem dX7_init_164 : decode cX7_init 164 = .ok (.putfield 69, 3) := by decide +kernel
theorem dX7_init_167 : decode cX7_init 167 = .ok (.aload_n 0, 1) := by decide +kernel
theorem dX7_init_168 : decode cX7_init 168 = .ok (.sipush 300, 3) := by decide +kernel
theorem dX7_init_171 : decode cX7_init 171 = .ok (.newarray .int, 2) := by decide +kernel
theorem dX7_init_173 : decode cX7_init 173 = .ok (.putfield 72, 3) := by decide +kernel
theorem dX7_init_176 : decode cX7_init 176 = .ok (.aload_n 0, 1) := by decide +kernel
theorem dX7_init_177 : decode cX7_init 177 = .ok (.sipush 300, 3) := by decide +kernel
theorem dX7_init_180 : decode cX7_init 180 = .ok (.newarray .int, 2) := by decide +kernel
theorem dX7_init_182 : decode cX7_init 182 = .ok (.putfield 75, 3) := by decide +kernel
theorem dX7_init_185 : decode cX7_init 185 = .ok (.aload_n 0, 1) := by decide +kernel
theorem dX7_init_186 : decode cX7_init 186 = .ok (.sipush 300, 3) := by decide +kernel
theorem dX7_init_189 : decode cX7_init 189 = .ok (.newarray .int, 2) := by decide +kernel
theorem dX7_init_191 : decode cX7_init 191 = .ok (.putfield 78, 3) := by decide +kernel
theorem dX7_init_194 : decode cX7_init 194 = .ok (.aload_n 0, 1) := by decide +kernel
theorem dX7_init_195 : decode cX7_init 195 = .ok (.bipush 8, 2) := by decide +kernel
theorem dX7_init_197 : decode cX7_init 197 = .ok (.newarray .int, 2) := by decide +kernel
theorem dX7_init_199 : decode cX7_init 199 = .ok (.putfield 81, 3) := by decide +kernel
theorem dX7_init_202 : decode cX7_init 202 = .ok (.aload_n 0, 1) := by decide +kernel
theorem dX7_init_203 : decode cX7_init 203 = .ok (.bipush 79, 2) := by decide +kernel
theorem dX7_init_205 : decode cX7_init 205 = .ok (.newarray .int, 2) := by decide +kernel
theorem dX7_init_207 : decode cX7_init 207 = .ok (.putfield 84, 3) := by decide +kernel
theorem dX7_init_210 : decode cX7_init 210 = .ok (.aload_n 0, 1) := by decide +kernel
theorem dX7_init_211 : decode cX7_init 211 = .ok (.invokevirtual 87, 3) := by decide +kernel
theorem dX7_init_214 : decode cX7_init 214 = .ok (.aload_n 0, 1) := by decide +kernel
theorem dX7_init_215 : decode cX7_init 215 = .ok (.invokevirtual 90, 3) := by decide +kernel
theorem dX7_init_218 : decode cX7_init 218 = .ok (.aload_n 0, 1) := by decide +kernel
theorem dX7_init_219 : decode cX7_init 219 = .ok (.invokevirtual 93, 3) := by decide +kernel
theorem dX7_init_222 : decode cX7_init 222 = .ok (.return_, 1) := by decide +kernel
theorem dX7_thrown_0 : decode cX7_thrown 0 = .ok (.aload_n 0, 1) := by decide +kernel
theorem dX7_thrown_1 : decode cX7_thrown 1 = .ok (.getfield 96, 3) := by decide +kernel
theorem dX7_thrown_4 : decode cX7_thrown 4 = .ok (.ireturn, 1) := by decide +kernel
theorem dX7_feed_0 : decode cX7_feed 0 = .ok (.aload_n 0, 1) := by decide +kernel
theorem dX7_feed_1 : decode cX7_feed 1 = .ok (.iconst 0, 1) := by decide +kernel
theorem dX7_feed_2 : decode cX7_feed 2 = .ok (.putfield 96, 3) := by decide +kernel
theorem dX7_feed_5 : decode cX7_feed 5 = .ok (.aload_n 0, 1) := by decide +kernel
theorem dX7_feed_6 : decode cX7_feed 6 = .ok (.getfield 99, 3) := by decide +kernel
theorem dX7_feed_9 : decode cX7_feed 9 = .ok (.sipush 680, 3) := by decide +kernel
theorem dX7_feed_12 : decode cX7_feed 12 = .ok (.if_icmp .le 5, 3) := by decide +kernel
theorem dX7_feed_15 : decode cX7_feed 15 = .ok (.iconst (-1), 1) := by decide +kernel
theorem dX7_feed_16 : decode cX7_feed 16 = .ok (.ireturn, 1) := by decide +kernel
theorem dX7_feed_17 : decode cX7_feed 17 = .ok (.iconst 0, 1) := by decide +kernel
theorem dX7_feed_18 : decode cX7_feed 18 = .ok (.istore 6, 2) := by decide +kernel
theorem dX7_feed_20 : decode cX7_feed 20 = .ok (.iload 6, 2) := by decide +kernel
theorem dX7_feed_22 : decode cX7_feed 22 = .ok (.bipush 20, 2) := by decide +kernel
theorem dX7_feed_24 : decode cX7_feed 24 = .ok (.if_icmp .ge 86, 3) := by decide +kernel
theorem dX7_feed_27 : decode cX7_feed 27 = .ok (.iload 6, 2) := by decide +kernel
theorem dX7_feed_29 : decode cX7_feed 29 = .ok (.iconst 4, 1) := by decide +kernel
theorem dX7_feed_30 : decode cX7_feed 30 = .ok (.if_icmp .ge 7, 3) := by decide +kernel
theorem dX7_feed_33 : decode cX7_feed 33 = .ok (.iload_n 1, 1) := by decide +kernel
theorem dX7_feed_34 : decode cX7_feed 34 = .ok (.goto 39, 3) := by decide +kernel
theorem dX7_feed_37 : decode cX7_feed 37 = .ok (.iload 6, 2) := by decide +kernel
theorem dX7_feed_39 : decode cX7_feed 39 = .ok (.bipush 8, 2) := by decide +kernel
theorem dX7_feed_41 : decode cX7_feed 41 = .ok (.if_icmp .ge 7, 3) := by decide +kernel
theorem dX7_feed_44 : decode cX7_feed 44 = .ok (.iload_n 2, 1) := by decide +kernel
theorem dX7_feed_45 : decode cX7_feed 45 = .ok (.goto 28, 3) := by decide +kernel
theorem dX7_feed_48 : decode cX7_feed 48 = .ok (.iload 6, 2) := by decide +kernel
theorem dX7_feed_50 : decode cX7_feed 50 = .ok (.bipush 12, 2) := by decide +kernel
theorem dX7_feed_52 : decode cX7_feed 52 = .ok (.if_icmp .ge 7, 3) := by decide +kernel
theorem dX7_feed_55 : decode cX7_feed 55 = .ok (.iload_n 3, 1) := by decide +kernel
theorem dX7_feed_56 : decode cX7_feed 56 = .ok (.goto 17, 3) := by decide +kernel
theorem dX7_feed_59 : decode cX7_feed 59 = .ok (.iload 6, 2) := by decide +kernel
theorem dX7_feed_61 : decode cX7_feed 61 = .ok (.bipush 16, 2) := by decide +kernel
theorem dX7_feed_63 : decode cX7_feed 63 = .ok (.if_icmp .ge 8, 3) := by decide +kernel
theorem dX7_feed_66 : decode cX7_feed 66 = .ok (.iload 4, 2) := by decide +kernel
theorem dX7_feed_68 : decode cX7_feed 68 = .ok (.goto 5, 3) := by decide +kernel
theorem dX7_feed_71 : decode cX7_feed 71 = .ok (.iload 5, 2) := by decide +kernel
theorem dX7_feed_73 : decode cX7_feed 73 = .ok (.istore 7, 2) := by decide +kernel
theorem dX7_feed_75 : decode cX7_feed 75 = .ok (.aload_n 0, 1) := by decide +kernel
theorem dX7_feed_76 : decode cX7_feed 76 = .ok (.getfield 7, 3) := by decide +kernel
theorem dX7_feed_79 : decode cX7_feed 79 = .ok (.aload_n 0, 1) := by decide +kernel
theorem dX7_feed_80 : decode cX7_feed 80 = .ok (.getfield 99, 3) := by decide +kernel
theorem dX7_feed_83 : decode cX7_feed 83 = .ok (.iload 6, 2) := by decide +kernel
theorem dX7_feed_85 : decode cX7_feed 85 = .ok (.iadd, 1) := by decide +kernel
theorem dX7_feed_86 : decode cX7_feed 86 = .ok (.iload 7, 2) := by decide +kernel
theorem dX7_feed_88 : decode cX7_feed 88 = .ok (.bipush 24, 2) := by decide +kernel
theorem dX7_feed_90 : decode cX7_feed 90 = .ok (.bipush 8, 2) := by decide +kernel
theorem dX7_feed_92 : decode cX7_feed 92 = .ok (.iload 6, 2) := by decide +kernel
theorem dX7_feed_94 : decode cX7_feed 94 = .ok (.iconst 4, 1) := by decide +kernel
theorem dX7_feed_95 : decode cX7_feed 95 = .ok (.irem, 1) := by decide +kernel
theorem dX7_feed_96 : decode cX7_feed 96 = .ok (.imul, 1) := by decide +kernel
theorem dX7_feed_97 : decode cX7_feed 97 = .ok (.isub, 1) := by decide +kernel
theorem dX7_feed_98 : decode cX7_feed 98 = .ok (.ishr, 1) := by decide +kernel
theorem dX7_feed_99 : decode cX7_feed 99 = .ok (.sipush 255, 3) := by decide +kernel
theorem dX7_feed_102 : decode cX7_feed 102 = .ok (.iand, 1) := by decide +kernel
theorem dX7_feed_103 : decode cX7_feed 103 = .ok (.iastore, 1) := by decide +kernel
theorem dX7_feed_104 : decode cX7_feed 104 = .ok (.iinc 6 1, 3) := by decide +kernel
theorem dX7_feed_107 : decode cX7_feed 107 = .ok (.goto (-87), 3) := by decide +kernel
theorem dX7_feed_110 : decode cX7_feed 110 = .ok (.aload_n 0, 1) := by decide +kernel
theorem dX7_feed_111 : decode cX7_feed 111 = .ok (.dup, 1) := by decide +kernel
theorem dX7_feed_112 : decode cX7_feed 112 = .ok (.getfield 99, 3) := by decide +kernel
theorem dX7_feed_115 : decode cX7_feed 115 = .ok (.bipush 20, 2) := by decide +kernel
theorem dX7_feed_117 : decode cX7_feed 117 = .ok (.iadd, 1) := by decide +kernel
theorem dX7_feed_118 : decode cX7_feed 118 = .ok (.putfield 99, 3) := by decide +kernel
theorem dX7_feed_121 : decode cX7_feed 121 = .ok (.aload_n 0, 1) := by decide +kernel
theorem dX7_feed_122 : decode cX7_feed 122 = .ok (.getfield 99, 3) := by decide +kernel
theorem dX7_feed_125 : decode cX7_feed 125 = .ok (.ireturn, 1) := by decide +kernel
theorem dX7_here_0 : decode cX7_here 0 = .ok (.aload_n 0, 1) := by decide +kernel
theorem dX7_here_1 : decode cX7_here 1 = .ok (.getfield 102, 3) := by decide +kernel
theorem dX7_here_4 : decode cX7_here 4 = .ok (.aload_n 0, 1) := by decide +kernel
theorem dX7_here_5 : decode cX7_here 5 = .ok (.getfield 105, 3) := by decide +kernel
theorem dX7_here_8 : decode cX7_here 8 = .ok (.if_icmp .ge 15, 3) := by decide +kernel
theorem dX7_here_11 : decode cX7_here 11 = .ok (.aload_n 0, 1) := by decide +kernel
theorem dX7_here_12 : decode cX7_here 12 = .ok (.getfield 7, 3) := by decide +kernel
theorem dX7_here_15 : decode cX7_here 15 = .ok (.aload_n 0, 1) := by decide +kernel
theorem dX7_here_16 : decode cX7_here 16 = .ok (.getfield 102, 3) := by decide +kernel
theorem dX7_here_19 : decode cX7_here 19 = .ok (.iaload, 1) := by decide +kernel
theorem dX7_here_20 : decode cX7_here 20 = .ok (.goto 4, 3) := by decide +kernel
theorem dX7_here_23 : decode cX7_here 23 = .ok (.iconst (-1), 1) := by decide +kernel
theorem dX7_here_24 : decode cX7_here 24 = .ok (.ireturn, 1) := by decide +kernel
theorem dX7_isSmall_0 : decode cX7_isSmall 0 = .ok (.iload_n 0, 1) := by decide +kernel
theorem dX7_isSmall_1 : decode cX7_isSmall 1 = .ok (.bipush 97, 2) := by decide +kernel
theorem dX7_isSmall_3 : decode cX7_isSmall 3 = .ok (.if_icmp .lt 13, 3) := by decide +kernel
theorem dX7_isSmall_6 : decode cX7_isSmall 6 = .ok (.iload_n 0, 1) := by decide +kernel
theorem dX7_isSmall_7 : decode cX7_isSmall 7 = .ok (.bipush 122, 2) := by decide +kernel
theorem dX7_isSmall_9 : decode cX7_isSmall 9 = .ok (.if_icmp .gt 7, 3) := by decide +kernel
theorem dX7_isSmall_12 : decode cX7_isSmall 12 = .ok (.iconst 1, 1) := by decide +kernel
theorem dX7_isSmall_13 : decode cX7_isSmall 13 = .ok (.goto 4, 3) := by decide +kernel
theorem dX7_isSmall_16 : decode cX7_isSmall 16 = .ok (.iconst 0, 1) := by decide +kernel
theorem dX7_isSmall_17 : decode cX7_isSmall 17 = .ok (.ireturn, 1) := by decide +kernel
theorem dX7_isDigit_0 : decode cX7_isDigit 0 = .ok (.iload_n 0, 1) := by decide +kernel
theorem dX7_isDigit_1 : decode cX7_isDigit 1 = .ok (.bipush 48, 2) := by decide +kernel
theorem dX7_isDigit_3 : decode cX7_isDigit 3 = .ok (.if_icmp .lt 13, 3) := by decide +kernel
theorem dX7_isDigit_6 : decode cX7_isDigit 6 = .ok (.iload_n 0, 1) := by decide +kernel
theorem dX7_isDigit_7 : decode cX7_isDigit 7 = .ok (.bipush 57, 2) := by decide +kernel
theorem dX7_isDigit_9 : decode cX7_isDigit 9 = .ok (.if_icmp .gt 7, 3) := by decide +kernel
theorem dX7_isDigit_12 : decode cX7_isDigit 12 = .ok (.iconst 1, 1) := by decide +kernel
theorem dX7_isDigit_13 : decode cX7_isDigit 13 = .ok (.goto 4, 3) := by decide +kernel
theorem dX7_isDigit_16 : decode cX7_isDigit 16 = .ok (.iconst 0, 1) := by decide +kernel
theorem dX7_isDigit_17 : decode cX7_isDigit 17 = .ok (.ireturn, 1) := by decide +kernel
theorem dX7_token_0 : decode cX7_token 0 = .ok (.aload_n 0, 1) := by decide +kernel
theorem dX7_token_1 : decode cX7_token 1 = .ok (.invokevirtual 108, 3) := by decide +kernel
theorem dX7_token_4 : decode cX7_token 4 = .ok (.bipush 10, 2) := by decide +kernel
theorem dX7_token_6 : decode cX7_token 6 = .ok (.if_icmp .eq 12, 3) := by decide +kernel
theorem dX7_token_9 : decode cX7_token 9 = .ok (.aload_n 0, 1) := by decide +kernel
theorem dX7_token_10 : decode cX7_token 10 = .ok (.invokevirtual 108, 3) := by decide +kernel
theorem dX7_token_13 : decode cX7_token 13 = .ok (.bipush 32, 2) := by decide +kernel
theorem dX7_token_15 : decode cX7_token 15 = .ok (.if_icmp .ne 16, 3) := by decide +kernel
theorem dX7_token_18 : decode cX7_token 18 = .ok (.aload_n 0, 1) := by decide +kernel
theorem dX7_token_19 : decode cX7_token 19 = .ok (.dup, 1) := by decide +kernel
theorem dX7_token_20 : decode cX7_token 20 = .ok (.getfield 102, 3) := by decide +kernel
theorem dX7_token_23 : decode cX7_token 23 = .ok (.iconst 1, 1) := by decide +kernel
theorem dX7_token_24 : decode cX7_token 24 = .ok (.iadd, 1) := by decide +kernel
theorem dX7_token_25 : decode cX7_token 25 = .ok (.putfield 102, 3) := by decide +kernel
theorem dX7_token_28 : decode cX7_token 28 = .ok (.goto (-28), 3) := by decide +kernel
theorem dX7_token_31 : decode cX7_token 31 = .ok (.aload_n 0, 1) := by decide +kernel
theorem dX7_token_32 : decode cX7_token 32 = .ok (.aload_n 0, 1) := by decide +kernel
theorem dX7_token_33 : decode cX7_token 33 = .ok (.getfield 102, 3) := by decide +kernel
theorem dX7_token_36 : decode cX7_token 36 = .ok (.putfield 112, 3) := by decide +kernel
theorem dX7_token_39 : decode cX7_token 39 = .ok (.aload_n 0, 1) := by decide +kernel
theorem dX7_token_40 : decode cX7_token 40 = .ok (.invokevirtual 108, 3) := by decide +kernel
theorem dX7_token_43 : decode cX7_token 43 = .ok (.istore_n 1, 1) := by decide +kernel
theorem dX7_token_44 : decode cX7_token 44 = .ok (.iload_n 1, 1) := by decide +kernel
theorem dX7_token_45 : decode cX7_token 45 = .ok (.iconst (-1), 1) := by decide +kernel
theorem dX7_token_46 : decode cX7_token 46 = .ok (.if_icmp .ne 11, 3) := by decide +kernel
theorem dX7_token_49 : decode cX7_token 49 = .ok (.aload_n 0, 1) := by decide +kernel
theorem dX7_token_50 : decode cX7_token 50 = .ok (.iconst 4, 1) := by decide +kernel
theorem dX7_token_51 : decode cX7_token 51 = .ok (.putfield 115, 3) := by decide +kernel
theorem dX7_token_54 : decode cX7_token 54 = .ok (.goto 191, 3) := by decide +kernel
theorem dX7_token_57 : decode cX7_token 57 = .ok (.iload_n 1, 1) := by decide +kernel
theorem dX7_token_58 : decode cX7_token 58 = .ok (.invokestatic 118, 3) := by decide +kernel
theorem dX7_token_61 : decode cX7_token 61 = .ok (.ifCond .eq 84, 3) := by decide +kernel
theorem dX7_token_64 : decode cX7_token 64 = .ok (.aload_n 0, 1) := by decide +kernel
theorem dX7_token_65 : decode cX7_token 65 = .ok (.invokevirtual 108, 3) := by decide +kernel
theorem dX7_token_68 : decode cX7_token 68 = .ok (.invokestatic 118, 3) := by decide +kernel
theorem dX7_token_71 : decode cX7_token 71 = .ok (.ifCond .eq 16, 3) := by decide +kernel
theorem dX7_token_74 : decode cX7_token 74 = .ok (.aload_n 0, 1) := by decide +kernel
theorem dX7_token_75 : decode cX7_token 75 = .ok (.dup, 1) := by decide +kernel
theorem dX7_token_76 : decode cX7_token 76 = .ok (.getfield 102, 3) := by decide +kernel
theorem dX7_token_79 : decode cX7_token 79 = .ok (.iconst 1, 1) := by decide +kernel
theorem dX7_token_80 : decode cX7_token 80 = .ok (.iadd, 1) := by decide +kernel
theorem dX7_token_81 : decode cX7_token 81 = .ok (.putfield 102, 3) := by decide +kernel
theorem dX7_token_84 : decode cX7_token 84 = .ok (.goto (-20), 3) := by decide +kernel
theorem dX7_token_87 : decode cX7_token 87 = .ok (.aload_n 0, 1) := by decide +kernel
theorem dX7_token_88 : decode cX7_token 88 = .ok (.aload_n 0, 1) := by decide +kernel
theorem dX7_token_89 : decode cX7_token 89 = .ok (.invokevirtual 122, 3) := by decide +kernel
theorem dX7_token_92 : decode cX7_token 92 = .ok (.putfield 125, 3) := by decide +kernel
theorem dX7_token_95 : decode cX7_token 95 = .ok (.aload_n 0, 1) := by decide +kernel
theorem dX7_token_96 : decode cX7_token 96 = .ok (.aload_n 0, 1) := by decide +kernel
theorem dX7_token_97 : decode cX7_token 97 = .ok (.getfield 125, 3) := by decide +kernel
theorem dX7_token_100 : decode cX7_token 100 = .ok (.iconst (-1), 1) := by decide +kernel
theorem dX7_token_101 : decode cX7_token 101 = .ok (.if_icmp .eq 7, 3) := by decide +kernel
theorem dX7_token_104 : decode cX7_token 104 = .ok (.iconst 0, 1) := by decide +kernel
theorem dX7_token_105 : decode cX7_token 105 = .ok (.goto 22, 3) := by decide +kernel
theorem dX7_token_108 : decode cX7_token 108 = .ok (.aload_n 0, 1) := by decide +kernel
theorem dX7_token_109 : decode cX7_token 109 = .ok (.getfield 102, 3) := by decide +kernel
theorem dX7_token_112 : decode cX7_token 112 = .ok (.aload_n 0, 1) := by decide +kernel
theorem dX7_token_113 : decode cX7_token 113 = .ok (.getfield 112, 3) := by decide +kernel
theorem dX7_token_116 : decode cX7_token 116 = .ok (.isub, 1) := by decide +kernel
theorem dX7_token_117 : decode cX7_token 117 = .ok (.bipush 6, 2) := by decide +kernel
theorem dX7_token_119 : decode cX7_token 119 = .ok (.if_icmp .le 7, 3) := by decide +kernel
theorem dX7_token_122 : decode cX7_token 122 = .ok (.iconst 5, 1) := by decide +kernel
theorem dX7_token_123 : decode cX7_token 123 = .ok (.goto 4, 3) := by decide +kernel
theorem dX7_token_126 : decode cX7_token 126 = .ok (.iconst 1, 1) := by decide +kernel
theorem dX7_token_127 : decode cX7_token 127 = .ok (.putfield 115, 3) := by decide +kernel
theorem dX7_token_130 : decode cX7_token 130 = .ok (.aload_n 0, 1) := by decide +kernel
theorem dX7_token_131 : decode cX7_token 131 = .ok (.getfield 115, 3) := by decide +kernel
theorem dX7_token_134 : decode cX7_token 134 = .ok (.iconst 1, 1) := by decide +kernel
theorem dX7_token_135 : decode cX7_token 135 = .ok (.if_icmp .ne 110, 3) := by decide +kernel
theorem dX7_token_138 : decode cX7_token 138 = .ok (.aload_n 0, 1) := by decide +kernel
theorem dX7_token_139 : decode cX7_token 139 = .ok (.invokevirtual 128, 3) := by decide +kernel
theorem dX7_token_142 : decode cX7_token 142 = .ok (.goto 103, 3) := by decide +kernel
theorem dX7_token_145 : decode cX7_token 145 = .ok (.iload_n 1, 1) := by decide +kernel
theorem dX7_token_146 : decode cX7_token 146 = .ok (.invokestatic 131, 3) := by decide +kernel
theorem dX7_token_149 : decode cX7_token 149 = .ok (.ifCond .eq 71, 3) := by decide +kernel
theorem dX7_token_152 : decode cX7_token 152 = .ok (.aload_n 0, 1) := by decide +kernel
theorem dX7_token_153 : decode cX7_token 153 = .ok (.iconst 2, 1) := by decide +kernel
theorem dX7_token_154 : decode cX7_token 154 = .ok (.putfield 115, 3) := by decide +kernel
theorem dX7_token_157 : decode cX7_token 157 = .ok (.aload_n 0, 1) := by decide +kernel
theorem dX7_token_158 : decode cX7_token 158 = .ok (.iconst 0, 1) := by decide +kernel
theorem dX7_token_159 : decode cX7_token 159 = .ok (.putfield 125, 3) := by decide +kernel
theorem dX7_token_162 : decode cX7_token 162 = .ok (.aload_n 0, 1) := by decide +kernel
theorem dX7_token_163 : decode cX7_token 163 = .ok (.invokevirtual 108, 3) := by decide +kernel
theorem dX7_token_166 : decode cX7_token 166 = .ok (.invokestatic 131, 3) := by decide +kernel
theorem dX7_token_169 : decode cX7_token 169 = .ok (.ifCond .eq 76, 3) := by decide +kernel
theorem dX7_token_172 : decode cX7_token 172 = .ok (.aload_n 0, 1) := by decide +kernel
theorem dX7_token_173 : decode cX7_token 173 = .ok (.aload_n 0, 1) := by decide +kernel
theorem dX7_token_174 : decode cX7_token 174 = .ok (.getfield 125, 3) := by decide +kernel
theorem dX7_token_177 : decode cX7_token 177 = .ok (.ldc 134, 2) := by decide +kernel
theorem dX7_token_179 : decode cX7_token 179 = .ok (.if_icmp .le 10, 3) := by decide +kernel
theorem dX7_token_182 : decode cX7_token 182 = .ok (.aload_n 0, 1) := by decide +kernel
theorem dX7_token_183 : decode cX7_token 183 = .ok (.getfield 125, 3) := by decide +kernel
theorem dX7_token_186 : decode cX7_token 186 = .ok (.goto 18, 3) := by decide +kernel
theorem dX7_token_189 : decode cX7_token 189 = .ok (.bipush 10, 2) := by decide +kernel
theorem dX7_token_191 : decode cX7_token 191 = .ok (.aload_n 0, 1) := by decide +kernel
theorem dX7_token_192 : decode cX7_token 192 = .ok (.getfield 125, 3) := by decide +kernel
theorem dX7_token_195 : decode cX7_token 195 = .ok (.imul, 1) := by decide +kernel
theorem dX7_token_196 : decode cX7_token 196 = .ok (.aload_n 0, 1) := by decide +kernel
theorem dX7_token_197 : decode cX7_token 197 = .ok (.invokevirtual 108, 3) := by decide +kernel
theorem dX7_token_200 : decode cX7_token 200 = .ok (.iadd, 1) := by decide +kernel
theorem dX7_token_201 : decode cX7_token 201 = .ok (.bipush 48, 2) := by decide +kernel
theorem dX7_token_203 : decode cX7_token 203 = .ok (.isub, 1) := by decide +kernel
theorem dX7_token_204 : decode cX7_token 204 = .ok (.putfield 125, 3) := by decide +kernel
theorem dX7_token_207 : decode cX7_token 207 = .ok (.aload_n 0, 1) := by decide +kernel
theorem dX7_token_208 : decode cX7_token 208 = .ok (.dup, 1) := by decide +kernel
theorem dX7_token_209 : decode cX7_token 209 = .ok (.getfield 102, 3) := by decide +kernel
theorem dX7_token_212 : decode cX7_token 212 = .ok (.iconst 1, 1) := by decide +kernel
theorem dX7_token_213 : decode cX7_token 213 = .ok (.iadd, 1) := by decide +kernel
theorem dX7_token_214 : decode cX7_token 214 = .ok (.putfield 102, 3) := by decide +kernel
theorem dX7_token_217 : decode cX7_token 217 = .ok (.goto (-55), 3) := by decide +kernel
theorem dX7_token_220 : decode cX7_token 220 = .ok (.aload_n 0, 1) := by decide +kernel
theorem dX7_token_221 : decode cX7_token 221 = .ok (.iload_n 1, 1) := by decide +kernel
theorem dX7_token_222 : decode cX7_token 222 = .ok (.bipush 59, 2) := by decide +kernel
theorem dX7_token_224 : decode cX7_token 224 = .ok (.if_icmp .ne 7, 3) := by decide +kernel
theorem dX7_token_227 : decode cX7_token 227 = .ok (.iconst 3, 1) := by decide +kernel
theorem dX7_token_228 : decode cX7_token 228 = .ok (.goto 4, 3) := by decide +kernel
theorem dX7_token_231 : decode cX7_token 231 = .ok (.iconst 5, 1) := by decide +kernel
theorem dX7_token_232 : decode cX7_token 232 = .ok (.putfield 115, 3) := by decide +kernel
theorem dX7_token_235 : decode cX7_token 235 = .ok (.aload_n 0, 1) := by decide +kernel
theorem dX7_token_236 : decode cX7_token 236 = .ok (.dup, 1) := by decide +kernel
theorem dX7_token_237 : decode cX7_token 237 = .ok (.getfield 102, 3) := by decide +kernel
theorem dX7_token_240 : decode cX7_token 240 = .ok (.iconst 1, 1) := by decide +kernel
theorem dX7_token_241 : decode cX7_token 241 = .ok (.iadd, 1) := by decide +kernel
theorem dX7_token_242 : decode cX7_token 242 = .ok (.putfield 102, 3) := by decide +kernel
theorem dX7_token_245 : decode cX7_token 245 = .ok (.return_, 1) := by decide +kernel
theorem dX7_wordHere_0 : decode cX7_wordHere 0 = .ok (.iconst 0, 1) := by decide +kernel
theorem dX7_wordHere_1 : decode cX7_wordHere 1 = .ok (.istore_n 1, 1) := by decide +kernel
theorem dX7_wordHere_2 : decode cX7_wordHere 2 = .ok (.iconst 0, 1) := by decide +kernel
theorem dX7_wordHere_3 : decode cX7_wordHere 3 = .ok (.istore_n 2, 1) := by decide +kernel
theorem dX7_wordHere_4 : decode cX7_wordHere 4 = .ok (.iload_n 2, 1) := by decide +kernel
theorem dX7_wordHere_5 : decode cX7_wordHere 5 = .ok (.ldc 135, 2) := by decide +kernel
theorem dX7_wordHere_7 : decode cX7_wordHere 7 = .ok (.invokevirtual 137, 3) := by decide +kernel
theorem dX7_wordHere_10 : decode cX7_wordHere 10 = .ok (.if_icmp .ge 113, 3) := by decide +kernel
theorem dX7_wordHere_13 : decode cX7_wordHere 13 = .ok (.iconst 0, 1) := by decide +kernel
theorem dX7_wordHere_14 : decode cX7_wordHere 14 = .ok (.istore_n 3, 1) := by decide +kernel
theorem dX7_wordHere_15 : decode cX7_wordHere 15 = .ok (.ldc 135, 2) := by decide +kernel
theorem dX7_wordHere_17 : decode cX7_wordHere 17 = .ok (.iload_n 2, 1) := by decide +kernel
theorem dX7_wordHere_18 : decode cX7_wordHere 18 = .ok (.iload_n 3, 1) := by decide +kernel
theorem dX7_wordHere_19 : decode cX7_wordHere 19 = .ok (.iadd, 1) := by decide +kernel
theorem dX7_wordHere_20 : decode cX7_wordHere 20 = .ok (.invokevirtual 142, 3) := by decide +kernel
theorem dX7_wordHere_23 : decode cX7_wordHere 23 = .ok (.bipush 32, 2) := by decide +kernel
theorem dX7_wordHere_25 : decode cX7_wordHere 25 = .ok (.if_icmp .eq 44, 3) := by decide +kernel
theorem dX7_wordHere_28 : decode cX7_wordHere 28 = .ok (.aload_n 0, 1) := by decide +kernel
theorem dX7_wordHere_29 : decode cX7_wordHere 29 = .ok (.getfield 112, 3) := by decide +kernel
theorem dX7_wordHere_32 : decode cX7_wordHere 32 = .ok (.iload_n 3, 1) := by decide +kernel
theorem dX7_wordHere_33 : decode cX7_wordHere 33 = .ok (.iadd, 1) := by decide +kernel
theorem dX7_wordHere_34 : decode cX7_wordHere 34 = .ok (.aload_n 0, 1) := by decide +kernel
theorem dX7_wordHere_35 : decode cX7_wordHere 35 = .ok (.getfield 102, 3) := by decide +kernel
theorem dX7_wordHere_38 : decode cX7_wordHere 38 = .ok (.if_icmp .ge 31, 3) := by decide +kernel
theorem dX7_wordHere_41 : decode cX7_wordHere 41 = .ok (.aload_n 0, 1) := by decide +kernel
theorem dX7_wordHere_42 : decode cX7_wordHere 42 = .ok (.getfield 7, 3) := by decide +kernel
theorem dX7_wordHere_45 : decode cX7_wordHere 45 = .ok (.aload_n 0, 1) := by decide +kernel
theorem dX7_wordHere_46 : decode cX7_wordHere 46 = .ok (.getfield 112, 3) := by decide +kernel
theorem dX7_wordHere_49 : decode cX7_wordHere 49 = .ok (.iload_n 3, 1) := by decide +kernel
theorem dX7_wordHere_50 : decode cX7_wordHere 50 = .ok (.iadd, 1) := by decide +kernel
theorem dX7_wordHere_51 : decode cX7_wordHere 51 = .ok (.iaload, 1) := by decide +kernel
theorem dX7_wordHere_52 : decode cX7_wordHere 52 = .ok (.ldc 135, 2) := by decide +kernel
theorem dX7_wordHere_54 : decode cX7_wordHere 54 = .ok (.iload_n 2, 1) := by decide +kernel
theorem dX7_wordHere_55 : decode cX7_wordHere 55 = .ok (.iload_n 3, 1) := by decide +kernel
theorem dX7_wordHere_56 : decode cX7_wordHere 56 = .ok (.iadd, 1) := by decide +kernel
theorem dX7_wordHere_57 : decode cX7_wordHere 57 = .ok (.invokevirtual 142, 3) := by decide +kernel
theorem dX7_wordHere_60 : decode cX7_wordHere 60 = .ok (.if_icmp .ne 9, 3) := by decide +kernel
theorem dX7_wordHere_63 : decode cX7_wordHere 63 = .ok (.iinc 3 1, 3) := by decide +kernel
theorem dX7_wordHere_66 : decode cX7_wordHere 66 = .ok (.goto (-51), 3) := by decide +kernel
theorem dX7_wordHere_69 : decode cX7_wordHere 69 = .ok (.ldc 135, 2) := by decide +kernel
theorem dX7_wordHere_71 : decode cX7_wordHere 71 = .ok (.iload_n 2, 1) := by decide +kernel
theorem dX7_wordHere_72 : decode cX7_wordHere 72 = .ok (.iload_n 3, 1) := by decide +kernel
theorem dX7_wordHere_73 : decode cX7_wordHere 73 = .ok (.iadd, 1) := by decide +kernel
theorem dX7_wordHere_74 : decode cX7_wordHere 74 = .ok (.invokevirtual 142, 3) := by decide +kernel
theorem dX7_wordHere_77 : decode cX7_wordHere 77 = .ok (.bipush 32, 2) := by decide +kernel
theorem dX7_wordHere_79 : decode cX7_wordHere 79 = .ok (.if_icmp .ne 18, 3) := by decide +kernel
theorem dX7_wordHere_82 : decode cX7_wordHere 82 = .ok (.aload_n 0, 1) := by decide +kernel
theorem dX7_wordHere_83 : decode cX7_wordHere 83 = .ok (.getfield 112, 3) := by decide +kernel
theorem dX7_wordHere_86 : decode cX7_wordHere 86 = .ok (.iload_n 3, 1) := by decide +kernel
theorem dX7_wordHere_87 : decode cX7_wordHere 87 = .ok (.iadd, 1) := by decide +kernel
theorem dX7_wordHere_88 : decode cX7_wordHere 88 = .ok (.aload_n 0, 1) := by decide +kernel
theorem dX7_wordHere_89 : decode cX7_wordHere 89 = .ok (.getfield 102, 3) := by decide +kernel
theorem dX7_wordHere_92 : decode cX7_wordHere 92 = .ok (.if_icmp .ne 5, 3) := by decide +kernel
theorem dX7_wordHere_95 : decode cX7_wordHere 95 = .ok (.iload_n 1, 1) := by decide +kernel
theorem dX7_wordHere_96 : decode cX7_wordHere 96 = .ok (.ireturn, 1) := by decide +kernel
theorem dX7_wordHere_97 : decode cX7_wordHere 97 = .ok (.ldc 135, 2) := by decide +kernel
theorem dX7_wordHere_99 : decode cX7_wordHere 99 = .ok (.iload_n 2, 1) := by decide +kernel
theorem dX7_wordHere_100 : decode cX7_wordHere 100 = .ok (.invokevirtual 142, 3) := by decide +kernel
theorem dX7_wordHere_103 : decode cX7_wordHere 103 = .ok (.bipush 32, 2) := by decide +kernel
theorem dX7_wordHere_105 : decode cX7_wordHere 105 = .ok (.if_icmp .eq 9, 3) := by decide +kernel
theorem dX7_wordHere_108 : decode cX7_wordHere 108 = .ok (.iinc 2 1, 3) := by decide +kernel
theorem dX7_wordHere_111 : decode cX7_wordHere 111 = .ok (.goto (-14), 3) := by decide +kernel
theorem dX7_wordHere_114 : decode cX7_wordHere 114 = .ok (.iinc 2 1, 3) := by decide +kernel
theorem dX7_wordHere_117 : decode cX7_wordHere 117 = .ok (.iinc 1 1, 3) := by decide +kernel
theorem dX7_wordHere_120 : decode cX7_wordHere 120 = .ok (.goto (-116), 3) := by decide +kernel
theorem dX7_wordHere_123 : decode cX7_wordHere 123 = .ok (.iconst (-1), 1) := by decide +kernel
theorem dX7_wordHere_124 : decode cX7_wordHere 124 = .ok (.ireturn, 1) := by decide +kernel
theorem dX7_nameHere_0 : decode cX7_nameHere 0 = .ok (.aload_n 0, 1) := by decide +kernel
theorem dX7_nameHere_1 : decode cX7_nameHere 1 = .ok (.iconst 0, 1) := by decide +kernel
theorem dX7_nameHere_2 : decode cX7_nameHere 2 = .ok (.putfield 125, 3) := by decide +kernel
theorem dX7_nameHere_5 : decode cX7_nameHere 5 = .ok (.iconst 0, 1) := by decide +kernel
theorem dX7_nameHere_6 : decode cX7_nameHere 6 = .ok (.istore_n 1, 1) := by decide +kernel
theorem dX7_nameHere_7 : decode cX7_nameHere 7 = .ok (.iload_n 1, 1) := by decide +kernel
theorem dX7_nameHere_8 : decode cX7_nameHere 8 = .ok (.bipush 6, 2) := by decide +kernel
theorem dX7_nameHere_10 : decode cX7_nameHere 10 = .ok (.if_icmp .ge 53, 3) := by decide +kernel
theorem dX7_nameHere_13 : decode cX7_nameHere 13 = .ok (.aload_n 0, 1) := by decide +kernel
theorem dX7_nameHere_14 : decode cX7_nameHere 14 = .ok (.aload_n 0, 1) := by decide +kernel
theorem dX7_nameHere_15 : decode cX7_nameHere 15 = .ok (.getfield 125, 3) := by decide +kernel
theorem dX7_nameHere_18 : decode cX7_nameHere 18 = .ok (.iconst 5, 1) := by decide +kernel
theorem dX7_nameHere_19 : decode cX7_nameHere 19 = .ok (.ishl, 1) := by decide +kernel
theorem dX7_nameHere_20 : decode cX7_nameHere 20 = .ok (.aload_n 0, 1) := by decide +kernel
theorem dX7_nameHere_21 : decode cX7_nameHere 21 = .ok (.getfield 112, 3) := by decide +kernel
theorem dX7_nameHere_24 : decode cX7_nameHere 24 = .ok (.iload_n 1, 1) := by decide +kernel
theorem dX7_nameHere_25 : decode cX7_nameHere 25 = .ok (.iadd, 1) := by decide +kernel
theorem dX7_nameHere_26 : decode cX7_nameHere 26 = .ok (.aload_n 0, 1) := by decide +kernel
theorem dX7_nameHere_27 : decode cX7_nameHere 27 = .ok (.getfield 102, 3) := by decide +kernel
theorem dX7_nameHere_30 : decode cX7_nameHere 30 = .ok (.if_icmp .ge 22, 3) := by decide +kernel
theorem dX7_nameHere_33 : decode cX7_nameHere 33 = .ok (.aload_n 0, 1) := by decide +kernel
theorem dX7_nameHere_34 : decode cX7_nameHere 34 = .ok (.getfield 7, 3) := by decide +kernel
theorem dX7_nameHere_37 : decode cX7_nameHere 37 = .ok (.aload_n 0, 1) := by decide +kernel
theorem dX7_nameHere_38 : decode cX7_nameHere 38 = .ok (.getfield 112, 3) := by decide +kernel
theorem dX7_nameHere_41 : decode cX7_nameHere 41 = .ok (.iload_n 1, 1) := by decide +kernel
theorem dX7_nameHere_42 : decode cX7_nameHere 42 = .ok (.iadd, 1) := by decide +kernel
theorem dX7_nameHere_43 : decode cX7_nameHere 43 = .ok (.iaload, 1) := by decide +kernel
theorem dX7_nameHere_44 : decode cX7_nameHere 44 = .ok (.bipush 97, 2) := by decide +kernel
theorem dX7_nameHere_46 : decode cX7_nameHere 46 = .ok (.isub, 1) := by decide +kernel
theorem dX7_nameHere_47 : decode cX7_nameHere 47 = .ok (.iconst 1, 1) := by decide +kernel
theorem dX7_nameHere_48 : decode cX7_nameHere 48 = .ok (.iadd, 1) := by decide +kernel
theorem dX7_nameHere_49 : decode cX7_nameHere 49 = .ok (.goto 4, 3) := by decide +kernel
theorem dX7_nameHere_52 : decode cX7_nameHere 52 = .ok (.iconst 0, 1) := by decide +kernel
theorem dX7_nameHere_53 : decode cX7_nameHere 53 = .ok (.ior, 1) := by decide +kernel
theorem dX7_nameHere_54 : decode cX7_nameHere 54 = .ok (.putfield 125, 3) := by decide +kernel
theorem dX7_nameHere_57 : decode cX7_nameHere 57 = .ok (.iinc 1 1, 3) := by decide +kernel
theorem dX7_nameHere_60 : decode cX7_nameHere 60 = .ok (.goto (-53), 3) := by decide +kernel
theorem dX7_nameHere_63 : decode cX7_nameHere 63 = .ok (.return_, 1) := by decide +kernel
theorem dX7_wrong_0 : decode cX7_wrong 0 = .ok (.aload_n 0, 1) := by decide +kernel
theorem dX7_wrong_1 : decode cX7_wrong 1 = .ok (.getfield 146, 3) := by decide +kernel
theorem dX7_wrong_4 : decode cX7_wrong 4 = .ok (.ifCond .eq 4, 3) := by decide +kernel
theorem dX7_wrong_7 : decode cX7_wrong 7 = .ok (.return_, 1) := by decide +kernel
theorem dX7_wrong_8 : decode cX7_wrong 8 = .ok (.aload_n 0, 1) := by decide +kernel
theorem dX7_wrong_9 : decode cX7_wrong 9 = .ok (.iload_n 1, 1) := by decide +kernel
theorem dX7_wrong_10 : decode cX7_wrong 10 = .ok (.putfield 146, 3) := by decide +kernel
theorem dX7_wrong_13 : decode cX7_wrong 13 = .ok (.aload_n 0, 1) := by decide +kernel
theorem dX7_wrong_14 : decode cX7_wrong 14 = .ok (.aload_n 0, 1) := by decide +kernel
theorem dX7_wrong_15 : decode cX7_wrong 15 = .ok (.getfield 112, 3) := by decide +kernel
theorem dX7_wrong_18 : decode cX7_wrong 18 = .ok (.putfield 149, 3) := by decide +kernel
theorem dX7_wrong_21 : decode cX7_wrong 21 = .ok (.return_, 1) := by decide +kernel
theorem dX7_goOn_0 : decode cX7_goOn 0 = .ok (.aload_n 0, 1) := by decide +kernel
theorem dX7_goOn_1 : decode cX7_goOn 1 = .ok (.getfield 146, 3) := by decide +kernel
theorem dX7_goOn_4 : decode cX7_goOn 4 = .ok (.ifCond .ne 7, 3) := by decide +kernel
theorem dX7_goOn_7 : decode cX7_goOn 7 = .ok (.aload_n 0, 1) := by decide +kernel
theorem dX7_goOn_8 : decode cX7_goOn 8 = .ok (.invokevirtual 152, 3) := by decide +kernel
theorem dX7_goOn_11 : decode cX7_goOn 11 = .ok (.return_, 1) := by decide +kernel
theorem dX7_numeral_0 : decode cX7_numeral 0 = .ok (.aload_n 0, 1) := by decide +kernel
theorem dX7_numeral_1 : decode cX7_numeral 1 = .ok (.getfield 146, 3) := by decide +kernel
theorem dX7_numeral_4 : decode cX7_numeral 4 = .ok (.ifCond .eq 5, 3) := by decide +kernel
theorem dX7_numeral_7 : decode cX7_numeral 7 = .ok (.iload_n 1, 1) := by decide +kernel
theorem dX7_numeral_8 : decode cX7_numeral 8 = .ok (.ireturn, 1) := by decide +kernel
theorem dX7_numeral_9 : decode cX7_numeral 9 = .ok (.aload_n 0, 1) := by decide +kernel
theorem dX7_numeral_10 : decode cX7_numeral 10 = .ok (.getfield 115, 3) := by decide +kernel
theorem dX7_numeral_13 : decode cX7_numeral 13 = .ok (.iconst 2, 1) := by decide +kernel
theorem dX7_numeral_14 : decode cX7_numeral 14 = .ok (.if_icmp .eq 11, 3) := by decide +kernel
theorem dX7_numeral_17 : decode cX7_numeral 17 = .ok (.aload_n 0, 1) := by decide +kernel
theorem dX7_numeral_18 : decode cX7_numeral 18 = .ok (.iconst 1, 1) := by decide +kernel
theorem dX7_numeral_19 : decode cX7_numeral 19 = .ok (.invokevirtual 155, 3) := by decide +kernel
theorem dX7_numeral_22 : decode cX7_numeral 22 = .ok (.goto 24, 3) := by decide +kernel
theorem dX7_numeral_25 : decode cX7_numeral 25 = .ok (.aload_n 0, 1) := by decide +kernel
theorem dX7_numeral_26 : decode cX7_numeral 26 = .ok (.getfield 125, 3) := by decide +kernel
theorem dX7_numeral_29 : decode cX7_numeral 29 = .ok (.iload_n 1, 1) := by decide +kernel
theorem dX7_numeral_30 : decode cX7_numeral 30 = .ok (.if_icmp .lt 11, 3) := by decide +kernel
theorem dX7_numeral_33 : decode cX7_numeral 33 = .ok (.aload_n 0, 1) := by decide +kernel
theorem dX7_numeral_34 : decode cX7_numeral 34 = .ok (.getfield 125, 3) := by decide +kernel
theorem dX7_numeral_37 : decode cX7_numeral 37 = .ok (.iload_n 2, 1) := by decide +kernel
theorem dX7_numeral_38 : decode cX7_numeral 38 = .ok (.if_icmp .le 8, 3) := by decide +kernel
theorem dX7_numeral_41 : decode cX7_numeral 41 = .ok (.aload_n 0, 1) := by decide +kernel
theorem dX7_numeral_42 : decode cX7_numeral 42 = .ok (.iconst 2, 1) := by decide +kernel
theorem dX7_numeral_43 : decode cX7_numeral 43 = .ok (.invokevirtual 155, 3) := by decide +kernel
theorem dX7_numeral_46 : decode cX7_numeral 46 = .ok (.aload_n 0, 1) := by decide +kernel
theorem dX7_numeral_47 : decode cX7_numeral 47 = .ok (.getfield 146, 3) := by decide +kernel
theorem dX7_numeral_50 : decode cX7_numeral 50 = .ok (.ifCond .ne 10, 3) := by decide +kernel
theorem dX7_numeral_53 : decode cX7_numeral 53 = .ok (.aload_n 0, 1) := by decide +kernel
theorem dX7_numeral_54 : decode cX7_numeral 54 = .ok (.getfield 125, 3) := by decide +kernel
theorem dX7_numeral_57 : decode cX7_numeral 57 = .ok (.goto 4, 3) := by decide +kernel
theorem dX7_numeral_60 : decode cX7_numeral 60 = .ok (.iload_n 1, 1) := by decide +kernel
theorem dX7_numeral_61 : decode cX7_numeral 61 = .ok (.istore_n 3, 1) := by decide +kernel
theorem dX7_numeral_62 : decode cX7_numeral 62 = .ok (.aload_n 0, 1) := by decide +kernel
theorem dX7_numeral_63 : decode cX7_numeral 63 = .ok (.invokevirtual 159, 3) := by decide +kernel
theorem dX7_numeral_66 : decode cX7_numeral 66 = .ok (.iload_n 3, 1) := by decide +kernel
theorem dX7_numeral_67 : decode cX7_numeral 67 = .ok (.ireturn, 1) := by decide +kernel
theorem dX7_reading_0 : decode cX7_reading 0 = .ok (.aload_n 0, 1) := by decide +kernel
theorem dX7_reading_1 : decode cX7_reading 1 = .ok (.getfield 13, 3) := by decide +kernel
theorem dX7_reading_4 : decode cX7_reading 4 = .ok (.bipush 10, 2) := by decide +kernel
theorem dX7_reading_6 : decode cX7_reading 6 = .ok (.iload_n 1, 1) := by decide +kernel
theorem dX7_reading_7 : decode cX7_reading 7 = .ok (.iadd, 1) := by decide +kernel
theorem dX7_reading_8 : decode cX7_reading 8 = .ok (.iaload, 1) := by decide +kernel
theorem dX7_reading_9 : decode cX7_reading 9 = .ok (.ireturn, 1) := by decide +kernel
theorem dX7_reads_0 : decode cX7_reads 0 = .ok (.aload_n 0, 1) := by decide +kernel
theorem dX7_reads_1 : decode cX7_reads 1 = .ok (.getfield 13, 3) := by decide +kernel
theorem dX7_reads_4 : decode cX7_reads 4 = .ok (.bipush 10, 2) := by decide +kernel
theorem dX7_reads_6 : decode cX7_reads 6 = .ok (.iload_n 1, 1) := by decide +kernel
theorem dX7_reads_7 : decode cX7_reads 7 = .ok (.iadd, 1) := by decide +kernel
theorem dX7_reads_8 : decode cX7_reads 8 = .ok (.iload_n 2, 1) := by decide +kernel
theorem dX7_reads_9 : decode cX7_reads 9 = .ok (.iastore, 1) := by decide +kernel
theorem dX7_reads_10 : decode cX7_reads 10 = .ok (.return_, 1) := by decide +kernel
theorem dX7_once_0 : decode cX7_once 0 = .ok (.aload_n 0, 1) := by decide +kernel
theorem dX7_once_1 : decode cX7_once 1 = .ok (.getfield 16, 3) := by decide +kernel
theorem dX7_once_4 : decode cX7_once 4 = .ok (.iload_n 1, 1) := by decide +kernel
theorem dX7_once_5 : decode cX7_once 5 = .ok (.baload, 1) := by decide +kernel
theorem dX7_once_6 : decode cX7_once 6 = .ok (.ifCond .eq 8, 3) := by decide +kernel
theorem dX7_once_9 : decode cX7_once 9 = .ok (.aload_n 0, 1) := by decide +kernel
theorem dX7_once_10 : decode cX7_once 10 = .ok (.iconst 3, 1) := by decide +kernel
theorem dX7_once_11 : decode cX7_once 11 = .ok (.invokevirtual 155, 3) := by decide +kernel
theorem dX7_once_14 : decode cX7_once 14 = .ok (.aload_n 0, 1) := by decide +kernel
theorem dX7_once_15 : decode cX7_once 15 = .ok (.getfield 16, 3) := by decide +kernel
theorem dX7_once_18 : decode cX7_once 18 = .ok (.iload_n 1, 1) := by decide +kernel
theorem dX7_once_19 : decode cX7_once 19 = .ok (.iconst 1, 1) := by decide +kernel
theorem dX7_once_20 : decode cX7_once 20 = .ok (.bastore, 1) := by decide +kernel
theorem dX7_once_21 : decode cX7_once 21 = .ok (.aload_n 0, 1) := by decide +kernel
theorem dX7_once_22 : decode cX7_once 22 = .ok (.invokevirtual 159, 3) := by decide +kernel
theorem dX7_once_25 : decode cX7_once 25 = .ok (.return_, 1) := by decide +kernel
theorem dX7_readOnce_0 : decode cX7_readOnce 0 = .ok (.aload_n 0, 1) := by decide +kernel
theorem dX7_readOnce_1 : decode cX7_readOnce 1 = .ok (.iload_n 1, 1) := by decide +kernel
theorem dX7_readOnce_2 : decode cX7_readOnce 2 = .ok (.invokevirtual 162, 3) := by decide +kernel
theorem dX7_readOnce_5 : decode cX7_readOnce 5 = .ok (.aload_n 0, 1) := by decide +kernel
theorem dX7_readOnce_6 : decode cX7_readOnce 6 = .ok (.iload_n 2, 1) := by decide +kernel
theorem dX7_readOnce_7 : decode cX7_readOnce 7 = .ok (.aload_n 0, 1) := by decide +kernel
theorem dX7_readOnce_8 : decode cX7_readOnce 8 = .ok (.iload_n 3, 1) := by decide +kernel
theorem dX7_readOnce_9 : decode cX7_readOnce 9 = .ok (.iload 4, 2) := by decide +kernel
theorem dX7_readOnce_11 : decode cX7_readOnce 11 = .ok (.invokevirtual 165, 3) := by decide +kernel
theorem dX7_readOnce_14 : decode cX7_readOnce 14 = .ok (.invokevirtual 169, 3) := by decide +kernel
theorem dX7_readOnce_17 : decode cX7_readOnce 17 = .ok (.return_, 1) := by decide +kernel
theorem dX7_namedAt_0 : decode cX7_namedAt 0 = .ok (.iconst 0, 1) := by decide +kernel
theorem dX7_namedAt_1 : decode cX7_namedAt 1 = .ok (.istore 4, 2) := by decide +kernel
theorem dX7_namedAt_3 : decode cX7_namedAt 3 = .ok (.iload 4, 2) := by decide +kernel
theorem dX7_namedAt_5 : decode cX7_namedAt 5 = .ok (.iload_n 2, 1) := by decide +kernel
theorem dX7_namedAt_6 : decode cX7_namedAt 6 = .ok (.if_icmp .ge 25, 3) := by decide +kernel
theorem dX7_namedAt_9 : decode cX7_namedAt 9 = .ok (.aload_n 0, 1) := by decide +kernel
theorem dX7_namedAt_10 : decode cX7_namedAt 10 = .ok (.getfield 20, 3) := by decide +kernel
theorem dX7_namedAt_13 : decode cX7_namedAt 13 = .ok (.iload_n 1, 1) := by decide +kernel
theorem dX7_namedAt_14 : decode cX7_namedAt 14 = .ok (.iload 4, 2) := by decide +kernel
theorem dX7_namedAt_16 : decode cX7_namedAt 16 = .ok (.iadd, 1) := by decide +kernel
theorem dX7_namedAt_17 : decode cX7_namedAt 17 = .ok (.iaload, 1) := by decide +kernel
theorem dX7_namedAt_18 : decode cX7_namedAt 18 = .ok (.iload_n 3, 1) := by decide +kernel
theorem dX7_namedAt_19 : decode cX7_namedAt 19 = .ok (.if_icmp .ne 6, 3) := by decide +kernel
theorem dX7_namedAt_22 : decode cX7_namedAt 22 = .ok (.iload 4, 2) := by decide +kernel
theorem dX7_namedAt_24 : decode cX7_namedAt 24 = .ok (.ireturn, 1) := by decide +kernel
theorem dX7_namedAt_25 : decode cX7_namedAt 25 = .ok (.iinc 4 1, 3) := by decide +kernel
theorem dX7_namedAt_28 : decode cX7_namedAt 28 = .ok (.goto (-25), 3) := by decide +kernel
theorem dX7_namedAt_31 : decode cX7_namedAt 31 = .ok (.iconst (-1), 1) := by decide +kernel
theorem dX7_namedAt_32 : decode cX7_namedAt 32 = .ok (.ireturn, 1) := by decide +kernel
theorem dX7_readBand_0 : decode cX7_readBand 0 = .ok (.aload_n 0, 1) := by decide +kernel
theorem dX7_readBand_1 : decode cX7_readBand 1 = .ok (.getfield 173, 3) := by decide +kernel
theorem dX7_readBand_4 : decode cX7_readBand 4 = .ok (.ifCond .eq 8, 3) := by decide +kernel
theorem dX7_readBand_7 : decode cX7_readBand 7 = .ok (.aload_n 0, 1) := by decide +kernel
theorem dX7_readBand_8 : decode cX7_readBand 8 = .ok (.iconst 1, 1) := by decide +kernel
theorem dX7_readBand_9 : decode cX7_readBand 9 = .ok (.invokevirtual 155, 3) := by decide +kernel
theorem dX7_readBand_12 : decode cX7_readBand 12 = .ok (.aload_n 0, 1) := by decide +kernel
theorem dX7_readBand_13 : decode cX7_readBand 13 = .ok (.iconst 0, 1) := by decide +kernel
theorem dX7_readBand_14 : decode cX7_readBand 14 = .ok (.iconst 0, 1) := by decide +kernel
theorem dX7_readBand_15 : decode cX7_readBand 15 = .ok (.iconst 4, 1) := by decide +kernel
theorem dX7_readBand_16 : decode cX7_readBand 16 = .ok (.bipush 60, 2) := by decide +kernel
theorem dX7_readBand_18 : decode cX7_readBand 18 = .ok (.invokevirtual 177, 3) := by decide +kernel
theorem dX7_readBand_21 : decode cX7_readBand 21 = .ok (.return_, 1) := by decide +kernel
theorem dX7_readLoss_0 : decode cX7_readLoss 0 = .ok (.aload_n 0, 1) := by decide +kernel
theorem dX7_readLoss_1 : decode cX7_readLoss 1 = .ok (.iconst 4, 1) := by decide +kernel
theorem dX7_readLoss_2 : decode cX7_readLoss 2 = .ok (.invokevirtual 162, 3) := by decide +kernel
theorem dX7_readLoss_5 : decode cX7_readLoss 5 = .ok (.iconst 0, 1) := by decide +kernel
theorem dX7_readLoss_6 : decode cX7_readLoss 6 = .ok (.istore_n 1, 1) := by decide +kernel
theorem dX7_readLoss_7 : decode cX7_readLoss 7 = .ok (.iload_n 1, 1) := by decide +kernel
theorem dX7_readLoss_8 : decode cX7_readLoss 8 = .ok (.iconst 3, 1) := by decide +kernel
theorem dX7_readLoss_9 : decode cX7_readLoss 9 = .ok (.if_icmp .ge 23, 3) := by decide +kernel
theorem dX7_readLoss_12 : decode cX7_readLoss 12 = .ok (.aload_n 0, 1) := by decide +kernel
theorem dX7_readLoss_13 : decode cX7_readLoss 13 = .ok (.iconst 4, 1) := by decide +kernel
theorem dX7_readLoss_14 : decode cX7_readLoss 14 = .ok (.iload_n 1, 1) := by decide +kernel
theorem dX7_readLoss_15 : decode cX7_readLoss 15 = .ok (.iadd, 1) := by decide +kernel
theorem dX7_readLoss_16 : decode cX7_readLoss 16 = .ok (.aload_n 0, 1) := by decide +kernel
theorem dX7_readLoss_17 : decode cX7_readLoss 17 = .ok (.iconst 0, 1) := by decide +kernel
theorem dX7_readLoss_18 : decode cX7_readLoss 18 = .ok (.bipush 99, 2) := by decide +kernel
theorem dX7_readLoss_20 : decode cX7_readLoss 20 = .ok (.invokevirtual 165, 3) := by decide +kernel
theorem dX7_readLoss_23 : decode cX7_readLoss 23 = .ok (.invokevirtual 169, 3) := by decide +kernel
theorem dX7_readLoss_26 : decode cX7_readLoss 26 = .ok (.iinc 1 1, 3) := by decide +kernel
theorem dX7_readLoss_29 : decode cX7_readLoss 29 = .ok (.goto (-22), 3) := by decide +kernel
theorem dX7_readLoss_32 : decode cX7_readLoss 32 = .ok (.return_, 1) := by decide +kernel
theorem dX7_readUser_0 : decode cX7_readUser 0 = .ok (.aload_n 0, 1) := by decide +kernel
theorem dX7_readUser_1 : decode cX7_readUser 1 = .ok (.iconst 1, 1) := by decide +kernel
theorem dX7_readUser_2 : decode cX7_readUser 2 = .ok (.putfield 173, 3) := by decide +kernel
theorem dX7_readUser_5 : decode cX7_readUser 5 = .ok (.bipush 6, 2) := by decide +kernel
theorem dX7_readUser_7 : decode cX7_readUser 7 = .ok (.aload_n 0, 1) := by decide +kernel
theorem dX7_readUser_8 : decode cX7_readUser 8 = .ok (.bipush 7, 2) := by decide +kernel
theorem dX7_readUser_10 : decode cX7_readUser 10 = .ok (.invokevirtual 181, 3) := by decide +kernel
theorem dX7_readUser_13 : decode cX7_readUser 13 = .ok (.iadd, 1) := by decide +kernel
theorem dX7_readUser_14 : decode cX7_readUser 14 = .ok (.istore_n 1, 1) := by decide +kernel
theorem dX7_readUser_15 : decode cX7_readUser 15 = .ok (.iload_n 1, 1) := by decide +kernel
theorem dX7_readUser_16 : decode cX7_readUser 16 = .ok (.bipush 12, 2) := by decide +kernel
theorem dX7_readUser_18 : decode cX7_readUser 18 = .ok (.if_icmp .ne 8, 3) := by decide +kernel
theorem dX7_readUser_21 : decode cX7_readUser 21 = .ok (.aload_n 0, 1) := by decide +kernel
theorem dX7_readUser_22 : decode cX7_readUser 22 = .ok (.iconst 2, 1) := by decide +kernel
theorem dX7_readUser_23 : decode cX7_readUser 23 = .ok (.invokevirtual 155, 3) := by decide +kernel
theorem dX7_readUser_26 : decode cX7_readUser 26 = .ok (.aload_n 0, 1) := by decide +kernel
theorem dX7_readUser_27 : decode cX7_readUser 27 = .ok (.invokevirtual 159, 3) := by decide +kernel
theorem dX7_readUser_30 : decode cX7_readUser 30 = .ok (.aload_n 0, 1) := by decide +kernel
theorem dX7_readUser_31 : decode cX7_readUser 31 = .ok (.getfield 146, 3) := by decide +kernel
theorem dX7_readUser_34 : decode cX7_readUser 34 = .ok (.ifCond .eq 4, 3) := by decide +kernel
theorem dX7_readUser_37 : decode cX7_readUser 37 = .ok (.return_, 1) := by decide +kernel
theorem dX7_readUser_38 : decode cX7_readUser 38 = .ok (.aload_n 0, 1) := by decide +kernel
theorem dX7_readUser_39 : decode cX7_readUser 39 = .ok (.getfield 115, 3) := by decide +kernel
theorem dX7_readUser_42 : decode cX7_readUser 42 = .ok (.iconst 1, 1) := by decide +kernel
theorem dX7_readUser_43 : decode cX7_readUser 43 = .ok (.if_icmp .eq 11, 3) := by decide +kernel
theorem dX7_readUser_46 : decode cX7_readUser 46 = .ok (.aload_n 0, 1) := by decide +kernel
theorem dX7_readUser_47 : decode cX7_readUser 47 = .ok (.iconst 1, 1) := by decide +kernel
theorem dX7_readUser_48 : decode cX7_readUser 48 = .ok (.invokevirtual 155, 3) := by decide +kernel
theorem dX7_readUser_51 : decode cX7_readUser 51 = .ok (.goto 28, 3) := by decide +kernel
theorem dX7_readUser_54 : decode cX7_readUser 54 = .ok (.aload_n 0, 1) := by decide +kernel
theorem dX7_readUser_55 : decode cX7_readUser 55 = .ok (.bipush 6, 2) := by decide +kernel
theorem dX7_readUser_57 : decode cX7_readUser 57 = .ok (.aload_n 0, 1) := by decide +kernel
theorem dX7_readUser_58 : decode cX7_readUser 58 = .ok (.bipush 7, 2) := by decide +kernel
theorem dX7_readUser_60 : decode cX7_readUser 60 = .ok (.invokevirtual 181, 3) := by decide +kernel
theorem dX7_readUser_63 : decode cX7_readUser 63 = .ok (.aload_n 0, 1) := by decide +kernel
theorem dX7_readUser_64 : decode cX7_readUser 64 = .ok (.getfield 125, 3) := by decide +kernel
theorem dX7_readUser_67 : decode cX7_readUser 67 = .ok (.invokevirtual 185, 3) := by decide +kernel
theorem dX7_readUser_70 : decode cX7_readUser 70 = .ok (.iconst (-1), 1) := by decide +kernel
theorem dX7_readUser_71 : decode cX7_readUser 71 = .ok (.if_icmp .eq 8, 3) := by decide +kernel
theorem dX7_readUser_74 : decode cX7_readUser 74 = .ok (.aload_n 0, 1) := by decide +kernel
theorem dX7_readUser_75 : decode cX7_readUser 75 = .ok (.iconst 3, 1) := by decide +kernel
theorem dX7_readUser_76 : decode cX7_readUser 76 = .ok (.invokevirtual 155, 3) := by decide +kernel
theorem dX7_readUser_79 : decode cX7_readUser 79 = .ok (.aload_n 0, 1) := by decide +kernel
theorem dX7_readUser_80 : decode cX7_readUser 80 = .ok (.getfield 146, 3) := by decide +kernel
theorem dX7_readUser_83 : decode cX7_readUser 83 = .ok (.ifCond .eq 4, 3) := by decide +kernel
theorem dX7_readUser_86 : decode cX7_readUser 86 = .ok (.return_, 1) := by decide +kernel
theorem dX7_readUser_87 : decode cX7_readUser 87 = .ok (.aload_n 0, 1) := by decide +kernel
theorem dX7_readUser_88 : decode cX7_readUser 88 = .ok (.getfield 20, 3) := by decide +kernel
theorem dX7_readUser_91 : decode cX7_readUser 91 = .ok (.iload_n 1, 1) := by decide +kernel
theorem dX7_readUser_92 : decode cX7_readUser 92 = .ok (.aload_n 0, 1) := by decide +kernel
theorem dX7_readUser_93 : decode cX7_readUser 93 = .ok (.getfield 125, 3) := by decide +kernel
theorem dX7_readUser_96 : decode cX7_readUser 96 = .ok (.iastore, 1) := by decide +kernel
theorem dX7_readUser_97 : decode cX7_readUser 97 = .ok (.aload_n 0, 1) := by decide +kernel
theorem dX7_readUser_98 : decode cX7_readUser 98 = .ok (.invokevirtual 152, 3) := by decide +kernel
theorem dX7_readUser_101 : decode cX7_readUser 101 = .ok (.aload_n 0, 1) := by decide +kernel
theorem dX7_readUser_102 : decode cX7_readUser 102 = .ok (.getfield 23, 3) := by decide +kernel
theorem dX7_readUser_105 : decode cX7_readUser 105 = .ok (.iload_n 1, 1) := by decide +kernel
theorem dX7_readUser_106 : decode cX7_readUser 106 = .ok (.aload_n 0, 1) := by decide +kernel
theorem dX7_readUser_107 : decode cX7_readUser 107 = .ok (.iconst 0, 1) := by decide +kernel
theorem dX7_readUser_108 : decode cX7_readUser 108 = .ok (.iconst 2, 1) := by decide +kernel
theorem dX7_readUser_109 : decode cX7_readUser 109 = .ok (.invokevirtual 165, 3) := by decide +kernel
theorem dX7_readUser_112 : decode cX7_readUser 112 = .ok (.iastore, 1) := by decide +kernel
theorem dX7_readUser_113 : decode cX7_readUser 113 = .ok (.aload_n 0, 1) := by decide +kernel
theorem dX7_readUser_114 : decode cX7_readUser 114 = .ok (.getfield 26, 3) := by decide +kernel
theorem dX7_readUser_117 : decode cX7_readUser 117 = .ok (.iload_n 1, 1) := by decide +kernel
theorem dX7_readUser_118 : decode cX7_readUser 118 = .ok (.aload_n 0, 1) := by decide +kernel
theorem dX7_readUser_119 : decode cX7_readUser 119 = .ok (.iconst 0, 1) := by decide +kernel
theorem dX7_readUser_120 : decode cX7_readUser 120 = .ok (.bipush 30, 2) := by decide +kernel
theorem dX7_readUser_122 : decode cX7_readUser 122 = .ok (.invokevirtual 165, 3) := by decide +kernel
theorem dX7_readUser_125 : decode cX7_readUser 125 = .ok (.iastore, 1) := by decide +kernel
theorem dX7_readUser_126 : decode cX7_readUser 126 = .ok (.aload_n 0, 1) := by decide +kernel
theorem dX7_readUser_127 : decode cX7_readUser 127 = .ok (.getfield 29, 3) := by decide +kernel
theorem dX7_readUser_130 : decode cX7_readUser 130 = .ok (.iload_n 1, 1) := by decide +kernel
theorem dX7_readUser_131 : decode cX7_readUser 131 = .ok (.aload_n 0, 1) := by decide +kernel
theorem dX7_readUser_132 : decode cX7_readUser 132 = .ok (.iconst 1, 1) := by decide +kernel
theorem dX7_readUser_133 : decode cX7_readUser 133 = .ok (.aload_n 0, 1) := by decide +kernel
theorem dX7_readUser_134 : decode cX7_readUser 134 = .ok (.iconst 0, 1) := by decide +kernel
theorem dX7_readUser_135 : decode cX7_readUser 135 = .ok (.invokevirtual 181, 3) := by decide +kernel
theorem dX7_readUser_138 : decode cX7_readUser 138 = .ok (.invokevirtual 165, 3) := by decide +kernel
theorem dX7_readUser_141 : decode cX7_readUser 141 = .ok (.iastore, 1) := by decide +kernel
theorem dX7_readUser_142 : decode cX7_readUser 142 = .ok (.aload_n 0, 1) := by decide +kernel
theorem dX7_readUser_143 : decode cX7_readUser 143 = .ok (.getfield 32, 3) := by decide +kernel
theorem dX7_readUser_146 : decode cX7_readUser 146 = .ok (.iload_n 1, 1) := by decide +kernel
theorem dX7_readUser_147 : decode cX7_readUser 147 = .ok (.aload_n 0, 1) := by decide +kernel
theorem dX7_readUser_148 : decode cX7_readUser 148 = .ok (.aload_n 0, 1) := by decide +kernel
theorem dX7_readUser_149 : decode cX7_readUser 149 = .ok (.getfield 29, 3) := by decide +kernel
theorem dX7_readUser_152 : decode cX7_readUser 152 = .ok (.iload_n 1, 1) := by decide +kernel
theorem dX7_readUser_153 : decode cX7_readUser 153 = .ok (.iaload, 1) := by decide +kernel
theorem dX7_readUser_154 : decode cX7_readUser 154 = .ok (.aload_n 0, 1) := by decide +kernel
theorem dX7_readUser_155 : decode cX7_readUser 155 = .ok (.iconst 0, 1) := by decide +kernel
theorem dX7_readUser_156 : decode cX7_readUser 156 = .ok (.invokevirtual 181, 3) := by decide +kernel
theorem dX7_readUser_159 : decode cX7_readUser 159 = .ok (.invokevirtual 165, 3) := by decide +kernel
theorem dX7_readUser_162 : decode cX7_readUser 162 = .ok (.iastore, 1) := by decide +kernel
theorem dX7_readUser_163 : decode cX7_readUser 163 = .ok (.aload_n 0, 1) := by decide +kernel
theorem dX7_readUser_164 : decode cX7_readUser 164 = .ok (.getfield 35, 3) := by decide +kernel
theorem dX7_readUser_167 : decode cX7_readUser 167 = .ok (.iload_n 1, 1) := by decide +kernel
theorem dX7_readUser_168 : decode cX7_readUser 168 = .ok (.iconst 0, 1) := by decide +kernel
theorem dX7_readUser_169 : decode cX7_readUser 169 = .ok (.iastore, 1) := by decide +kernel
theorem dX7_readUser_170 : decode cX7_readUser 170 = .ok (.aload_n 0, 1) := by decide +kernel
theorem dX7_readUser_171 : decode cX7_readUser 171 = .ok (.getfield 38, 3) := by decide +kernel
theorem dX7_readUser_174 : decode cX7_readUser 174 = .ok (.iload_n 1, 1) := by decide +kernel
theorem dX7_readUser_175 : decode cX7_readUser 175 = .ok (.iconst 0, 1) := by decide +kernel
theorem dX7_readUser_176 : decode cX7_readUser 176 = .ok (.iastore, 1) := by decide +kernel
theorem dX7_readUser_177 : decode cX7_readUser 177 = .ok (.aload_n 0, 1) := by decide +kernel
theorem dX7_readUser_178 : decode cX7_readUser 178 = .ok (.bipush 7, 2) := by decide +kernel
theorem dX7_readUser_180 : decode cX7_readUser 180 = .ok (.aload_n 0, 1) := by decide +kernel
theorem dX7_readUser_181 : decode cX7_readUser 181 = .ok (.bipush 7, 2) := by decide +kernel
theorem dX7_readUser_183 : decode cX7_readUser 183 = .ok (.invokevirtual 181, 3) := by decide +kernel
theorem dX7_readUser_186 : decode cX7_readUser 186 = .ok (.iconst 1, 1) := by decide +kernel
theorem dX7_readUser_187 : decode cX7_readUser 187 = .ok (.iadd, 1) := by decide +kernel
theorem dX7_readUser_188 : decode cX7_readUser 188 = .ok (.invokevirtual 169, 3) := by decide +kernel
theorem dX7_readUser_191 : decode cX7_readUser 191 = .ok (.return_, 1) := by decide +kernel
theorem dX7_userOnce_0 : decode cX7_userOnce 0 = .ok (.aload_n 0, 1) := by decide +kernel
theorem dX7_userOnce_1 : decode cX7_userOnce 1 = .ok (.invokevirtual 159, 3) := by decide +kernel
theorem dX7_userOnce_4 : decode cX7_userOnce 4 = .ok (.aload_n 0, 1) := by decide +kernel
theorem dX7_userOnce_5 : decode cX7_userOnce 5 = .ok (.getfield 146, 3) := by decide +kernel
theorem dX7_userOnce_8 : decode cX7_userOnce 8 = .ok (.ifCond .eq 5, 3) := by decide +kernel
theorem dX7_userOnce_11 : decode cX7_userOnce 11 = .ok (.iconst 0, 1) := by decide +kernel
theorem dX7_userOnce_12 : decode cX7_userOnce 12 = .ok (.ireturn, 1) := by decide +kernel
theorem dX7_userOnce_13 : decode cX7_userOnce 13 = .ok (.aload_n 0, 1) := by decide +kernel
theorem dX7_userOnce_14 : decode cX7_userOnce 14 = .ok (.getfield 115, 3) := by decide +kernel
theorem dX7_userOnce_17 : decode cX7_userOnce 17 = .ok (.iconst 1, 1) := by decide +kernel
theorem dX7_userOnce_18 : decode cX7_userOnce 18 = .ok (.if_icmp .eq 8, 3) := by decide +kernel
theorem dX7_userOnce_21 : decode cX7_userOnce 21 = .ok (.aload_n 0, 1) := by decide +kernel
theorem dX7_userOnce_22 : decode cX7_userOnce 22 = .ok (.iconst 1, 1) := by decide +kernel
theorem dX7_userOnce_23 : decode cX7_userOnce 23 = .ok (.invokevirtual 155, 3) := by decide +kernel
theorem dX7_userOnce_26 : decode cX7_userOnce 26 = .ok (.aload_n 0, 1) := by decide +kernel
theorem dX7_userOnce_27 : decode cX7_userOnce 27 = .ok (.getfield 146, 3) := by decide +kernel
theorem dX7_userOnce_30 : decode cX7_userOnce 30 = .ok (.ifCond .ne 22, 3) := by decide +kernel
theorem dX7_userOnce_33 : decode cX7_userOnce 33 = .ok (.aload_n 0, 1) := by decide +kernel
theorem dX7_userOnce_34 : decode cX7_userOnce 34 = .ok (.bipush 6, 2) := by decide +kernel
theorem dX7_userOnce_36 : decode cX7_userOnce 36 = .ok (.aload_n 0, 1) := by decide +kernel
theorem dX7_userOnce_37 : decode cX7_userOnce 37 = .ok (.bipush 7, 2) := by decide +kernel
theorem dX7_userOnce_39 : decode cX7_userOnce 39 = .ok (.invokevirtual 181, 3) := by decide +kernel
theorem dX7_userOnce_42 : decode cX7_userOnce 42 = .ok (.aload_n 0, 1) := by decide +kernel
theorem dX7_userOnce_43 : decode cX7_userOnce 43 = .ok (.getfield 125, 3) := by decide +kernel
theorem dX7_userOnce_46 : decode cX7_userOnce 46 = .ok (.invokevirtual 185, 3) := by decide +kernel
theorem dX7_userOnce_49 : decode cX7_userOnce 49 = .ok (.goto 4, 3) := by decide +kernel
theorem dX7_userOnce_52 : decode cX7_userOnce 52 = .ok (.iconst 0, 1) := by decide +kernel
theorem dX7_userOnce_53 : decode cX7_userOnce 53 = .ok (.istore_n 2, 1) := by decide +kernel
theorem dX7_userOnce_54 : decode cX7_userOnce 54 = .ok (.iload_n 2, 1) := by decide +kernel
theorem dX7_userOnce_55 : decode cX7_userOnce 55 = .ok (.iconst (-1), 1) := by decide +kernel
theorem dX7_userOnce_56 : decode cX7_userOnce 56 = .ok (.if_icmp .ne 11, 3) := by decide +kernel
theorem dX7_userOnce_59 : decode cX7_userOnce 59 = .ok (.aload_n 0, 1) := by decide +kernel
theorem dX7_userOnce_60 : decode cX7_userOnce 60 = .ok (.iconst 4, 1) := by decide +kernel
theorem dX7_userOnce_61 : decode cX7_userOnce 61 = .ok (.invokevirtual 155, 3) := by decide +kernel
theorem dX7_userOnce_64 : decode cX7_userOnce 64 = .ok (.goto 24, 3) := by decide +kernel
theorem dX7_userOnce_67 : decode cX7_userOnce 67 = .ok (.aload_n 0, 1) := by decide +kernel
theorem dX7_userOnce_68 : decode cX7_userOnce 68 = .ok (.getfield 146, 3) := by decide +kernel
theorem dX7_userOnce_71 : decode cX7_userOnce 71 = .ok (.ifCond .ne 17, 3) := by decide +kernel
theorem dX7_userOnce_74 : decode cX7_userOnce 74 = .ok (.aload_n 1, 1) := by decide +kernel
theorem dX7_userOnce_75 : decode cX7_userOnce 75 = .ok (.bipush 6, 2) := by decide +kernel
theorem dX7_userOnce_77 : decode cX7_userOnce 77 = .ok (.iload_n 2, 1) := by decide +kernel
theorem dX7_userOnce_78 : decode cX7_userOnce 78 = .ok (.iadd, 1) := by decide +kernel
theorem dX7_userOnce_79 : decode cX7_userOnce 79 = .ok (.iaload, 1) := by decide +kernel
theorem dX7_userOnce_80 : decode cX7_userOnce 80 = .ok (.ifCond .le 8, 3) := by decide +kernel
theorem dX7_userOnce_83 : decode cX7_userOnce 83 = .ok (.aload_n 0, 1) := by decide +kernel
theorem dX7_userOnce_84 : decode cX7_userOnce 84 = .ok (.iconst 3, 1) := by decide +kernel
theorem dX7_userOnce_85 : decode cX7_userOnce 85 = .ok (.invokevirtual 155, 3) := by decide +kernel
theorem dX7_userOnce_88 : decode cX7_userOnce 88 = .ok (.aload_n 0, 1) := by decide +kernel
theorem dX7_userOnce_89 : decode cX7_userOnce 89 = .ok (.invokevirtual 159, 3) := by decide +kernel
theorem dX7_userOnce_92 : decode cX7_userOnce 92 = .ok (.iload_n 2, 1) := by decide +kernel
theorem dX7_userOnce_93 : decode cX7_userOnce 93 = .ok (.iconst (-1), 1) := by decide +kernel
theorem dX7_userOnce_94 : decode cX7_userOnce 94 = .ok (.if_icmp .ne 7, 3) := by decide +kernel
theorem dX7_userOnce_97 : decode cX7_userOnce 97 = .ok (.iconst 0, 1) := by decide +kernel
theorem dX7_userOnce_98 : decode cX7_userOnce 98 = .ok (.goto 4, 3) := by decide +kernel
theorem dX7_userOnce_101 : decode cX7_userOnce 101 = .ok (.iload_n 2, 1) := by decide +kernel
theorem dX7_userOnce_102 : decode cX7_userOnce 102 = .ok (.ireturn, 1) := by decide +kernel
theorem dX7_readFixed_0 : decode cX7_readFixed 0 = .ok (.aload_n 0, 1) := by decide +kernel
theorem dX7_readFixed_1 : decode cX7_readFixed 1 = .ok (.iconst 1, 1) := by decide +kernel
theorem dX7_readFixed_2 : decode cX7_readFixed 2 = .ok (.putfield 173, 3) := by decide +kernel
theorem dX7_readFixed_5 : decode cX7_readFixed 5 = .ok (.aload_n 0, 1) := by decide +kernel
theorem dX7_readFixed_6 : decode cX7_readFixed 6 = .ok (.aload_n 0, 1) := by decide +kernel
theorem dX7_readFixed_7 : decode cX7_readFixed 7 = .ok (.getfield 35, 3) := by decide +kernel
theorem dX7_readFixed_10 : decode cX7_readFixed 10 = .ok (.invokevirtual 189, 3) := by decide +kernel
theorem dX7_readFixed_13 : decode cX7_readFixed 13 = .ok (.istore_n 1, 1) := by decide +kernel
theorem dX7_readFixed_14 : decode cX7_readFixed 14 = .ok (.aload_n 0, 1) := by decide +kernel
theorem dX7_readFixed_15 : decode cX7_readFixed 15 = .ok (.iconst 1, 1) := by decide +kernel
theorem dX7_readFixed_16 : decode cX7_readFixed 16 = .ok (.aload_n 0, 1) := by decide +kernel
theorem dX7_readFixed_17 : decode cX7_readFixed 17 = .ok (.iconst 0, 1) := by decide +kernel
theorem dX7_readFixed_18 : decode cX7_readFixed 18 = .ok (.invokevirtual 181, 3) := by decide +kernel
theorem dX7_readFixed_21 : decode cX7_readFixed 21 = .ok (.invokevirtual 165, 3) := by decide +kernel
theorem dX7_readFixed_24 : decode cX7_readFixed 24 = .ok (.istore_n 2, 1) := by decide +kernel
theorem dX7_readFixed_25 : decode cX7_readFixed 25 = .ok (.aload_n 0, 1) := by decide +kernel
theorem dX7_readFixed_26 : decode cX7_readFixed 26 = .ok (.getfield 146, 3) := by decide +kernel
theorem dX7_readFixed_29 : decode cX7_readFixed 29 = .ok (.ifCond .ne 13, 3) := by decide +kernel
theorem dX7_readFixed_32 : decode cX7_readFixed 32 = .ok (.aload_n 0, 1) := by decide +kernel
theorem dX7_readFixed_33 : decode cX7_readFixed 33 = .ok (.getfield 35, 3) := by decide +kernel
theorem dX7_readFixed_36 : decode cX7_readFixed 36 = .ok (.bipush 6, 2) := by decide +kernel
theorem dX7_readFixed_38 : decode cX7_readFixed 38 = .ok (.iload_n 1, 1) := by decide +kernel
theorem dX7_readFixed_39 : decode cX7_readFixed 39 = .ok (.iadd, 1) := by decide +kernel
theorem dX7_readFixed_40 : decode cX7_readFixed 40 = .ok (.iload_n 2, 1) := by decide +kernel
theorem dX7_readFixed_41 : decode cX7_readFixed 41 = .ok (.iastore, 1) := by decide +kernel
theorem dX7_readFixed_42 : decode cX7_readFixed 42 = .ok (.return_, 1) := by decide +kernel
theorem dX7_readSlots_0 : decode cX7_readSlots 0 = .ok (.aload_n 0, 1) := by decide +kernel
theorem dX7_readSlots_1 : decode cX7_readSlots 1 = .ok (.aload_n 0, 1) := by decide +kernel
theorem dX7_readSlots_2 : decode cX7_readSlots 2 = .ok (.getfield 38, 3) := by decide +kernel
theorem dX7_readSlots_5 : decode cX7_readSlots 5 = .ok (.invokevirtual 189, 3) := by decide +kernel
theorem dX7_readSlots_8 : decode cX7_readSlots 8 = .ok (.istore_n 1, 1) := by decide +kernel
theorem dX7_readSlots_9 : decode cX7_readSlots 9 = .ok (.aload_n 0, 1) := by decide +kernel
theorem dX7_readSlots_10 : decode cX7_readSlots 10 = .ok (.iconst 1, 1) := by decide +kernel
theorem dX7_readSlots_11 : decode cX7_readSlots 11 = .ok (.sipush 255, 3) := by decide +kernel
theorem dX7_readSlots_14 : decode cX7_readSlots 14 = .ok (.invokevirtual 165, 3) := by decide +kernel
theorem dX7_readSlots_17 : decode cX7_readSlots 17 = .ok (.istore_n 2, 1) := by decide +kernel
theorem dX7_readSlots_18 : decode cX7_readSlots 18 = .ok (.aload_n 0, 1) := by decide +kernel
theorem dX7_readSlots_19 : decode cX7_readSlots 19 = .ok (.getfield 146, 3) := by decide +kernel
theorem dX7_readSlots_22 : decode cX7_readSlots 22 = .ok (.ifCond .ne 13, 3) := by decide +kernel
theorem dX7_readSlots_25 : decode cX7_readSlots 25 = .ok (.aload_n 0, 1) := by decide +kernel
theorem dX7_readSlots_26 : decode cX7_readSlots 26 = .ok (.getfield 38, 3) := by decide +kernel
theorem dX7_readSlots_29 : decode cX7_readSlots 29 = .ok (.bipush 6, 2) := by decide +kernel
theorem dX7_readSlots_31 : decode cX7_readSlots 31 = .ok (.iload_n 1, 1) := by decide +kernel
theorem dX7_readSlots_32 : decode cX7_readSlots 32 = .ok (.iadd, 1) := by decide +kernel
theorem dX7_readSlots_33 : decode cX7_readSlots 33 = .ok (.iload_n 2, 1) := by decide +kernel
theorem dX7_readSlots_34 : decode cX7_readSlots 34 = .ok (.iastore, 1) := by decide +kernel
theorem dX7_readSlots_35 : decode cX7_readSlots 35 = .ok (.return_, 1) := by decide +kernel
theorem dX7_readLink_0 : decode cX7_readLink 0 = .ok (.aload_n 0, 1) := by decide +kernel
theorem dX7_readLink_1 : decode cX7_readLink 1 = .ok (.invokevirtual 159, 3) := by decide +kernel
theorem dX7_readLink_4 : decode cX7_readLink 4 = .ok (.aload_n 0, 1) := by decide +kernel
theorem dX7_readLink_5 : decode cX7_readLink 5 = .ok (.iconst 0, 1) := by decide +kernel
theorem dX7_readLink_6 : decode cX7_readLink 6 = .ok (.iconst 2, 1) := by decide +kernel
theorem dX7_readLink_7 : decode cX7_readLink 7 = .ok (.invokevirtual 165, 3) := by decide +kernel
theorem dX7_readLink_10 : decode cX7_readLink 10 = .ok (.istore_n 1, 1) := by decide +kernel
theorem dX7_readLink_11 : decode cX7_readLink 11 = .ok (.aload_n 0, 1) := by decide +kernel
theorem dX7_readLink_12 : decode cX7_readLink 12 = .ok (.getfield 146, 3) := by decide +kernel
theorem dX7_readLink_15 : decode cX7_readLink 15 = .ok (.ifCond .ne 16, 3) := by decide +kernel
theorem dX7_readLink_18 : decode cX7_readLink 18 = .ok (.aload_n 0, 1) := by decide +kernel
theorem dX7_readLink_19 : decode cX7_readLink 19 = .ok (.getfield 115, 3) := by decide +kernel
theorem dX7_readLink_22 : decode cX7_readLink 22 = .ok (.iconst 2, 1) := by decide +kernel
theorem dX7_readLink_23 : decode cX7_readLink 23 = .ok (.if_icmp .eq 8, 3) := by decide +kernel
theorem dX7_readLink_26 : decode cX7_readLink 26 = .ok (.aload_n 0, 1) := by decide +kernel
theorem dX7_readLink_27 : decode cX7_readLink 27 = .ok (.iconst 1, 1) := by decide +kernel
theorem dX7_readLink_28 : decode cX7_readLink 28 = .ok (.invokevirtual 155, 3) := by decide +kernel
theorem dX7_readLink_31 : decode cX7_readLink 31 = .ok (.aload_n 0, 1) := by decide +kernel
theorem dX7_readLink_32 : decode cX7_readLink 32 = .ok (.getfield 146, 3) := by decide +kernel
theorem dX7_readLink_35 : decode cX7_readLink 35 = .ok (.ifCond .ne 24, 3) := by decide +kernel
theorem dX7_readLink_38 : decode cX7_readLink 38 = .ok (.aload_n 0, 1) := by decide +kernel
theorem dX7_readLink_39 : decode cX7_readLink 39 = .ok (.getfield 125, 3) := by decide +kernel
theorem dX7_readLink_42 : decode cX7_readLink 42 = .ok (.iconst 2, 1) := by decide +kernel
theorem dX7_readLink_43 : decode cX7_readLink 43 = .ok (.if_icmp .gt 11, 3) := by decide +kernel
theorem dX7_readLink_46 : decode cX7_readLink 46 = .ok (.aload_n 0, 1) := by decide +kernel
theorem dX7_readLink_47 : decode cX7_readLink 47 = .ok (.getfield 125, 3) := by decide +kernel
theorem dX7_readLink_50 : decode cX7_readLink 50 = .ok (.iload_n 1, 1) := by decide +kernel
theorem dX7_readLink_51 : decode cX7_readLink 51 = .ok (.if_icmp .ne 8, 3) := by decide +kernel
theorem dX7_readLink_54 : decode cX7_readLink 54 = .ok (.aload_n 0, 1) := by decide +kernel
theorem dX7_readLink_55 : decode cX7_readLink 55 = .ok (.iconst 2, 1) := by decide +kernel
theorem dX7_readLink_56 : decode cX7_readLink 56 = .ok (.invokevirtual 155, 3) := by decide +kernel
theorem dX7_readLink_59 : decode cX7_readLink 59 = .ok (.aload_n 0, 1) := by decide +kernel
theorem dX7_readLink_60 : decode cX7_readLink 60 = .ok (.getfield 146, 3) := by decide +kernel
theorem dX7_readLink_63 : decode cX7_readLink 63 = .ok (.ifCond .ne 10, 3) := by decide +kernel
theorem dX7_readLink_66 : decode cX7_readLink 66 = .ok (.aload_n 0, 1) := by decide +kernel
theorem dX7_readLink_67 : decode cX7_readLink 67 = .ok (.getfield 125, 3) := by decide +kernel
theorem dX7_readLink_70 : decode cX7_readLink 70 = .ok (.goto 4, 3) := by decide +kernel
theorem dX7_readLink_73 : decode cX7_readLink 73 = .ok (.iconst 0, 1) := by decide +kernel
theorem dX7_readLink_74 : decode cX7_readLink 74 = .ok (.istore_n 2, 1) := by decide +kernel
theorem dX7_readLink_75 : decode cX7_readLink 75 = .ok (.aload_n 0, 1) := by decide +kernel
theorem dX7_readLink_76 : decode cX7_readLink 76 = .ok (.getfield 146, 3) := by decide +kernel
theorem dX7_readLink_79 : decode cX7_readLink 79 = .ok (.ifCond .ne 26, 3) := by decide +kernel
theorem dX7_readLink_82 : decode cX7_readLink 82 = .ok (.aload_n 0, 1) := by decide +kernel
theorem dX7_readLink_83 : decode cX7_readLink 83 = .ok (.getfield 41, 3) := by decide +kernel
theorem dX7_readLink_86 : decode cX7_readLink 86 = .ok (.bipush 9, 2) := by decide +kernel
theorem dX7_readLink_88 : decode cX7_readLink 88 = .ok (.iconst 3, 1) := by decide +kernel
theorem dX7_readLink_89 : decode cX7_readLink 89 = .ok (.iload_n 1, 1) := by decide +kernel
theorem dX7_readLink_90 : decode cX7_readLink 90 = .ok (.imul, 1) := by decide +kernel
theorem dX7_readLink_91 : decode cX7_readLink 91 = .ok (.iadd, 1) := by decide +kernel
theorem dX7_readLink_92 : decode cX7_readLink 92 = .ok (.iload_n 2, 1) := by decide +kernel
theorem dX7_readLink_93 : decode cX7_readLink 93 = .ok (.iadd, 1) := by decide +kernel
theorem dX7_readLink_94 : decode cX7_readLink 94 = .ok (.iaload, 1) := by decide +kernel
theorem dX7_readLink_95 : decode cX7_readLink 95 = .ok (.bipush (-2), 2) := by decide +kernel
theorem dX7_readLink_97 : decode cX7_readLink 97 = .ok (.if_icmp .eq 8, 3) := by decide +kernel
theorem dX7_readLink_100 : decode cX7_readLink 100 = .ok (.aload_n 0, 1) := by decide +kernel
theorem dX7_readLink_101 : decode cX7_readLink 101 = .ok (.iconst 3, 1) := by decide +kernel
theorem dX7_readLink_102 : decode cX7_readLink 102 = .ok (.invokevirtual 155, 3) := by decide +kernel
theorem dX7_readLink_105 : decode cX7_readLink 105 = .ok (.aload_n 0, 1) := by decide +kernel
theorem dX7_readLink_106 : decode cX7_readLink 106 = .ok (.invokevirtual 159, 3) := by decide +kernel
theorem dX7_readLink_109 : decode cX7_readLink 109 = .ok (.aload_n 0, 1) := by decide +kernel
theorem dX7_readLink_110 : decode cX7_readLink 110 = .ok (.iconst 0, 1) := by decide +kernel
theorem dX7_readLink_111 : decode cX7_readLink 111 = .ok (.bipush 99, 2) := by decide +kernel
theorem dX7_readLink_113 : decode cX7_readLink 113 = .ok (.invokevirtual 165, 3) := by decide +kernel
theorem dX7_readLink_116 : decode cX7_readLink 116 = .ok (.istore_n 3, 1) := by decide +kernel
theorem dX7_readLink_117 : decode cX7_readLink 117 = .ok (.aload_n 0, 1) := by decide +kernel
theorem dX7_readLink_118 : decode cX7_readLink 118 = .ok (.getfield 146, 3) := by decide +kernel
theorem dX7_readLink_121 : decode cX7_readLink 121 = .ok (.ifCond .eq 4, 3) := by decide +kernel
theorem dX7_readLink_124 : decode cX7_readLink 124 = .ok (.return_, 1) := by decide +kernel
theorem dX7_readLink_125 : decode cX7_readLink 125 = .ok (.aload_n 0, 1) := by decide +kernel
theorem dX7_readLink_126 : decode cX7_readLink 126 = .ok (.getfield 41, 3) := by decide +kernel
theorem dX7_readLink_129 : decode cX7_readLink 129 = .ok (.bipush 9, 2) := by decide +kernel
theorem dX7_readLink_131 : decode cX7_readLink 131 = .ok (.iconst 3, 1) := by decide +kernel
theorem dX7_readLink_132 : decode cX7_readLink 132 = .ok (.iload_n 1, 1) := by decide +kernel
theorem dX7_readLink_133 : decode cX7_readLink 133 = .ok (.imul, 1) := by decide +kernel
theorem dX7_readLink_134 : decode cX7_readLink 134 = .ok (.iadd, 1) := by decide +kernel
theorem dX7_readLink_135 : decode cX7_readLink 135 = .ok (.iload_n 2, 1) := by decide +kernel
theorem dX7_readLink_136 : decode cX7_readLink 136 = .ok (.iadd, 1) := by decide +kernel
theorem dX7_readLink_137 : decode cX7_readLink 137 = .ok (.iload_n 3, 1) := by decide +kernel
theorem dX7_readLink_138 : decode cX7_readLink 138 = .ok (.iastore, 1) := by decide +kernel
theorem dX7_readLink_139 : decode cX7_readLink 139 = .ok (.aload_n 0, 1) := by decide +kernel
theorem dX7_readLink_140 : decode cX7_readLink 140 = .ok (.getfield 41, 3) := by decide +kernel
theorem dX7_readLink_143 : decode cX7_readLink 143 = .ok (.bipush 9, 2) := by decide +kernel
theorem dX7_readLink_145 : decode cX7_readLink 145 = .ok (.iconst 3, 1) := by decide +kernel
theorem dX7_readLink_146 : decode cX7_readLink 146 = .ok (.iload_n 2, 1) := by decide +kernel
theorem dX7_readLink_147 : decode cX7_readLink 147 = .ok (.imul, 1) := by decide +kernel
theorem dX7_readLink_148 : decode cX7_readLink 148 = .ok (.iadd, 1) := by decide +kernel
theorem dX7_readLink_149 : decode cX7_readLink 149 = .ok (.iload_n 1, 1) := by decide +kernel
theorem dX7_readLink_150 : decode cX7_readLink 150 = .ok (.iadd, 1) := by decide +kernel
theorem dX7_readLink_151 : decode cX7_readLink 151 = .ok (.iload_n 3, 1) := by decide +kernel
theorem dX7_readLink_152 : decode cX7_readLink 152 = .ok (.iastore, 1) := by decide +kernel
theorem dX7_readLink_153 : decode cX7_readLink 153 = .ok (.return_, 1) := by decide +kernel
theorem dX7_readBlock_0 : decode cX7_readBlock 0 = .ok (.aload_n 0, 1) := by decide +kernel
theorem dX7_readBlock_1 : decode cX7_readBlock 1 = .ok (.iconst 1, 1) := by decide +kernel
theorem dX7_readBlock_2 : decode cX7_readBlock 2 = .ok (.putfield 173, 3) := by decide +kernel
theorem dX7_readBlock_5 : decode cX7_readBlock 5 = .ok (.aload_n 0, 1) := by decide +kernel
theorem dX7_readBlock_6 : decode cX7_readBlock 6 = .ok (.bipush 8, 2) := by decide +kernel
theorem dX7_readBlock_8 : decode cX7_readBlock 8 = .ok (.invokevirtual 181, 3) := by decide +kernel
theorem dX7_readBlock_11 : decode cX7_readBlock 11 = .ok (.bipush 6, 2) := by decide +kernel
theorem dX7_readBlock_13 : decode cX7_readBlock 13 = .ok (.if_icmp .ne 8, 3) := by decide +kernel
theorem dX7_readBlock_16 : decode cX7_readBlock 16 = .ok (.aload_n 0, 1) := by decide +kernel
theorem dX7_readBlock_17 : decode cX7_readBlock 17 = .ok (.iconst 2, 1) := by decide +kernel
theorem dX7_readBlock_18 : decode cX7_readBlock 18 = .ok (.invokevirtual 155, 3) := by decide +kernel
theorem dX7_readBlock_21 : decode cX7_readBlock 21 = .ok (.aload_n 0, 1) := by decide +kernel
theorem dX7_readBlock_22 : decode cX7_readBlock 22 = .ok (.invokevirtual 159, 3) := by decide +kernel
theorem dX7_readBlock_25 : decode cX7_readBlock 25 = .ok (.aload_n 0, 1) := by decide +kernel
theorem dX7_readBlock_26 : decode cX7_readBlock 26 = .ok (.iconst 1, 1) := by decide +kernel
theorem dX7_readBlock_27 : decode cX7_readBlock 27 = .ok (.aload_n 0, 1) := by decide +kernel
theorem dX7_readBlock_28 : decode cX7_readBlock 28 = .ok (.iconst 0, 1) := by decide +kernel
theorem dX7_readBlock_29 : decode cX7_readBlock 29 = .ok (.invokevirtual 181, 3) := by decide +kernel
theorem dX7_readBlock_32 : decode cX7_readBlock 32 = .ok (.invokevirtual 165, 3) := by decide +kernel
theorem dX7_readBlock_35 : decode cX7_readBlock 35 = .ok (.istore_n 1, 1) := by decide +kernel
theorem dX7_readBlock_36 : decode cX7_readBlock 36 = .ok (.aload_n 0, 1) := by decide +kernel
theorem dX7_readBlock_37 : decode cX7_readBlock 37 = .ok (.iload_n 1, 1) := by decide +kernel
theorem dX7_readBlock_38 : decode cX7_readBlock 38 = .ok (.aload_n 0, 1) := by decide +kernel
theorem dX7_readBlock_39 : decode cX7_readBlock 39 = .ok (.iconst 0, 1) := by decide +kernel
theorem dX7_readBlock_40 : decode cX7_readBlock 40 = .ok (.invokevirtual 181, 3) := by decide +kernel
theorem dX7_readBlock_43 : decode cX7_readBlock 43 = .ok (.invokevirtual 165, 3) := by decide +kernel
theorem dX7_readBlock_46 : decode cX7_readBlock 46 = .ok (.istore_n 2, 1) := by decide +kernel
theorem dX7_readBlock_47 : decode cX7_readBlock 47 = .ok (.aload_n 0, 1) := by decide +kernel
theorem dX7_readBlock_48 : decode cX7_readBlock 48 = .ok (.getfield 146, 3) := by decide +kernel
theorem dX7_readBlock_51 : decode cX7_readBlock 51 = .ok (.ifCond .eq 4, 3) := by decide +kernel
theorem dX7_readBlock_54 : decode cX7_readBlock 54 = .ok (.return_, 1) := by decide +kernel
theorem dX7_readBlock_55 : decode cX7_readBlock 55 = .ok (.iload_n 1, 1) := by decide +kernel
theorem dX7_readBlock_56 : decode cX7_readBlock 56 = .ok (.istore_n 3, 1) := by decide +kernel
theorem dX7_readBlock_57 : decode cX7_readBlock 57 = .ok (.iload_n 3, 1) := by decide +kernel
theorem dX7_readBlock_58 : decode cX7_readBlock 58 = .ok (.iload_n 2, 1) := by decide +kernel
theorem dX7_readBlock_59 : decode cX7_readBlock 59 = .ok (.if_icmp .gt 19, 3) := by decide +kernel
theorem dX7_readBlock_62 : decode cX7_readBlock 62 = .ok (.aload_n 0, 1) := by decide +kernel
theorem dX7_readBlock_63 : decode cX7_readBlock 63 = .ok (.getfield 44, 3) := by decide +kernel
theorem dX7_readBlock_66 : decode cX7_readBlock 66 = .ok (.bipush 61, 2) := by decide +kernel
theorem dX7_readBlock_68 : decode cX7_readBlock 68 = .ok (.iload_n 3, 1) := by decide +kernel
theorem dX7_readBlock_69 : decode cX7_readBlock 69 = .ok (.iadd, 1) := by decide +kernel
theorem dX7_readBlock_70 : decode cX7_readBlock 70 = .ok (.iconst 1, 1) := by decide +kernel
theorem dX7_readBlock_71 : decode cX7_readBlock 71 = .ok (.bastore, 1) := by decide +kernel
theorem dX7_readBlock_72 : decode cX7_readBlock 72 = .ok (.iinc 3 1, 3) := by decide +kernel
theorem dX7_readBlock_75 : decode cX7_readBlock 75 = .ok (.goto (-18), 3) := by decide +kernel
theorem dX7_readBlock_78 : decode cX7_readBlock 78 = .ok (.aload_n 0, 1) := by decide +kernel
theorem dX7_readBlock_79 : decode cX7_readBlock 79 = .ok (.bipush 8, 2) := by decide +kernel
theorem dX7_readBlock_81 : decode cX7_readBlock 81 = .ok (.aload_n 0, 1) := by decide +kernel
theorem dX7_readBlock_82 : decode cX7_readBlock 82 = .ok (.bipush 8, 2) := by decide +kernel
theorem dX7_readBlock_84 : decode cX7_readBlock 84 = .ok (.invokevirtual 181, 3) := by decide +kernel
theorem dX7_readBlock_87 : decode cX7_readBlock 87 = .ok (.iconst 1, 1) := by decide +kernel
theorem dX7_readBlock_88 : decode cX7_readBlock 88 = .ok (.iadd, 1) := by decide +kernel
theorem dX7_readBlock_89 : decode cX7_readBlock 89 = .ok (.invokevirtual 169, 3) := by decide +kernel
theorem dX7_readBlock_92 : decode cX7_readBlock 92 = .ok (.return_, 1) := by decide +kernel
theorem dX7_readLine_0 : decode cX7_readLine 0 = .ok (.aload_n 0, 1) := by decide +kernel
theorem dX7_readLine_1 : decode cX7_readLine 1 = .ok (.getfield 115, 3) := by decide +kernel
theorem dX7_readLine_4 : decode cX7_readLine 4 = .ok (.ifCond .eq 11, 3) := by decide +kernel
theorem dX7_readLine_7 : decode cX7_readLine 7 = .ok (.aload_n 0, 1) := by decide +kernel
theorem dX7_readLine_8 : decode cX7_readLine 8 = .ok (.iconst 1, 1) := by decide +kernel
theorem dX7_readLine_9 : decode cX7_readLine 9 = .ok (.invokevirtual 155, 3) := by decide +kernel
theorem dX7_readLine_12 : decode cX7_readLine 12 = .ok (.goto 181, 3) := by decide +kernel
theorem dX7_readLine_15 : decode cX7_readLine 15 = .ok (.aload_n 0, 1) := by decide +kernel
theorem dX7_readLine_16 : decode cX7_readLine 16 = .ok (.getfield 125, 3) := by decide +kernel
theorem dX7_readLine_19 : decode cX7_readLine 19 = .ok (.ifCond .ne 10, 3) := by decide +kernel
theorem dX7_readLine_22 : decode cX7_readLine 22 = .ok (.aload_n 0, 1) := by decide +kernel
theorem dX7_readLine_23 : decode cX7_readLine 23 = .ok (.invokevirtual 193, 3) := by decide +kernel
theorem dX7_readLine_26 : decode cX7_readLine 26 = .ok (.goto 167, 3) := by decide +kernel
theorem dX7_readLine_29 : decode cX7_readLine 29 = .ok (.aload_n 0, 1) := by decide +kernel
theorem dX7_readLine_30 : decode cX7_readLine 30 = .ok (.getfield 125, 3) := by decide +kernel
theorem dX7_readLine_33 : decode cX7_readLine 33 = .ok (.iconst 1, 1) := by decide +kernel
theorem dX7_readLine_34 : decode cX7_readLine 34 = .ok (.if_icmp .ne 14, 3) := by decide +kernel
theorem dX7_readLine_37 : decode cX7_readLine 37 = .ok (.aload_n 0, 1) := by decide +kernel
theorem dX7_readLine_38 : decode cX7_readLine 38 = .ok (.iconst 1, 1) := by decide +kernel
theorem dX7_readLine_39 : decode cX7_readLine 39 = .ok (.iconst 1, 1) := by decide +kernel
theorem dX7_readLine_40 : decode cX7_readLine 40 = .ok (.iconst 0, 1) := by decide +kernel
theorem dX7_readLine_41 : decode cX7_readLine 41 = .ok (.iconst 5, 1) := by decide +kernel
theorem dX7_readLine_42 : decode cX7_readLine 42 = .ok (.invokevirtual 177, 3) := by decide +kernel
theorem dX7_readLine_45 : decode cX7_readLine 45 = .ok (.goto 148, 3) := by decide +kernel
theorem dX7_readLine_48 : decode cX7_readLine 48 = .ok (.aload_n 0, 1) := by decide +kernel
theorem dX7_readLine_49 : decode cX7_readLine 49 = .ok (.getfield 125, 3) := by decide +kernel
theorem dX7_readLine_52 : decode cX7_readLine 52 = .ok (.iconst 2, 1) := by decide +kernel
theorem dX7_readLine_53 : decode cX7_readLine 53 = .ok (.if_icmp .ne 15, 3) := by decide +kernel
theorem dX7_readLine_56 : decode cX7_readLine 56 = .ok (.aload_n 0, 1) := by decide +kernel
theorem dX7_readLine_57 : decode cX7_readLine 57 = .ok (.iconst 2, 1) := by decide +kernel
theorem dX7_readLine_58 : decode cX7_readLine 58 = .ok (.iconst 2, 1) := by decide +kernel
theorem dX7_readLine_59 : decode cX7_readLine 59 = .ok (.iconst 1, 1) := by decide +kernel
theorem dX7_readLine_60 : decode cX7_readLine 60 = .ok (.bipush 20, 2) := by decide +kernel
theorem dX7_readLine_62 : decode cX7_readLine 62 = .ok (.invokevirtual 177, 3) := by decide +kernel
theorem dX7_readLine_65 : decode cX7_readLine 65 = .ok (.goto 128, 3) := by decide +kernel
theorem dX7_readLine_68 : decode cX7_readLine 68 = .ok (.aload_n 0, 1) := by decide +kernel
theorem dX7_readLine_69 : decode cX7_readLine 69 = .ok (.getfield 125, 3) := by decide +kernel
theorem dX7_readLine_72 : decode cX7_readLine 72 = .ok (.iconst 3, 1) := by decide +kernel
theorem dX7_readLine_73 : decode cX7_readLine 73 = .ok (.if_icmp .ne 15, 3) := by decide +kernel
theorem dX7_readLine_76 : decode cX7_readLine 76 = .ok (.aload_n 0, 1) := by decide +kernel
theorem dX7_readLine_77 : decode cX7_readLine 77 = .ok (.iconst 3, 1) := by decide +kernel
theorem dX7_readLine_78 : decode cX7_readLine 78 = .ok (.iconst 3, 1) := by decide +kernel
theorem dX7_readLine_79 : decode cX7_readLine 79 = .ok (.iconst 0, 1) := by decide +kernel
theorem dX7_readLine_80 : decode cX7_readLine 80 = .ok (.bipush 7, 2) := by decide +kernel
theorem dX7_readLine_82 : decode cX7_readLine 82 = .ok (.invokevirtual 177, 3) := by decide +kernel
theorem dX7_readLine_85 : decode cX7_readLine 85 = .ok (.goto 108, 3) := by decide +kernel
theorem dX7_readLine_88 : decode cX7_readLine 88 = .ok (.aload_n 0, 1) := by decide +kernel
theorem dX7_readLine_89 : decode cX7_readLine 89 = .ok (.getfield 125, 3) := by decide +kernel
theorem dX7_readLine_92 : decode cX7_readLine 92 = .ok (.iconst 4, 1) := by decide +kernel
theorem dX7_readLine_93 : decode cX7_readLine 93 = .ok (.if_icmp .ne 10, 3) := by decide +kernel
theorem dX7_readLine_96 : decode cX7_readLine 96 = .ok (.aload_n 0, 1) := by decide +kernel
theorem dX7_readLine_97 : decode cX7_readLine 97 = .ok (.invokevirtual 196, 3) := by decide +kernel
theorem dX7_readLine_100 : decode cX7_readLine 100 = .ok (.goto 93, 3) := by decide +kernel
theorem dX7_readLine_103 : decode cX7_readLine 103 = .ok (.aload_n 0, 1) := by decide +kernel
theorem dX7_readLine_104 : decode cX7_readLine 104 = .ok (.getfield 125, 3) := by decide +kernel
theorem dX7_readLine_107 : decode cX7_readLine 107 = .ok (.iconst 5, 1) := by decide +kernel
theorem dX7_readLine_108 : decode cX7_readLine 108 = .ok (.if_icmp .ne 10, 3) := by decide +kernel
theorem dX7_readLine_111 : decode cX7_readLine 111 = .ok (.aload_n 0, 1) := by decide +kernel
theorem dX7_readLine_112 : decode cX7_readLine 112 = .ok (.invokevirtual 199, 3) := by decide +kernel
theorem dX7_readLine_115 : decode cX7_readLine 115 = .ok (.goto 78, 3) := by decide +kernel
theorem dX7_readLine_118 : decode cX7_readLine 118 = .ok (.aload_n 0, 1) := by decide +kernel
theorem dX7_readLine_119 : decode cX7_readLine 119 = .ok (.getfield 125, 3) := by decide +kernel
theorem dX7_readLine_122 : decode cX7_readLine 122 = .ok (.bipush 6, 2) := by decide +kernel
theorem dX7_readLine_124 : decode cX7_readLine 124 = .ok (.if_icmp .ne 10, 3) := by decide +kernel
theorem dX7_readLine_127 : decode cX7_readLine 127 = .ok (.aload_n 0, 1) := by decide +kernel
theorem dX7_readLine_128 : decode cX7_readLine 128 = .ok (.invokevirtual 202, 3) := by decide +kernel
theorem dX7_readLine_131 : decode cX7_readLine 131 = .ok (.goto 62, 3) := by decide +kernel
theorem dX7_readLine_134 : decode cX7_readLine 134 = .ok (.aload_n 0, 1) := by decide +kernel
theorem dX7_readLine_135 : decode cX7_readLine 135 = .ok (.getfield 125, 3) := by decide +kernel
theorem dX7_readLine_138 : decode cX7_readLine 138 = .ok (.bipush 7, 2) := by decide +kernel
theorem dX7_readLine_140 : decode cX7_readLine 140 = .ok (.if_icmp .ne 10, 3) := by decide +kernel
theorem dX7_readLine_143 : decode cX7_readLine 143 = .ok (.aload_n 0, 1) := by decide +kernel
theorem dX7_readLine_144 : decode cX7_readLine 144 = .ok (.invokevirtual 205, 3) := by decide +kernel
theorem dX7_readLine_147 : decode cX7_readLine 147 = .ok (.goto 46, 3) := by decide +kernel
theorem dX7_readLine_150 : decode cX7_readLine 150 = .ok (.aload_n 0, 1) := by decide +kernel
theorem dX7_readLine_151 : decode cX7_readLine 151 = .ok (.getfield 125, 3) := by decide +kernel
theorem dX7_readLine_154 : decode cX7_readLine 154 = .ok (.bipush 8, 2) := by decide +kernel
theorem dX7_readLine_156 : decode cX7_readLine 156 = .ok (.if_icmp .ne 10, 3) := by decide +kernel
theorem dX7_readLine_159 : decode cX7_readLine 159 = .ok (.aload_n 0, 1) := by decide +kernel
theorem dX7_readLine_160 : decode cX7_readLine 160 = .ok (.invokevirtual 208, 3) := by decide +kernel
theorem dX7_readLine_163 : decode cX7_readLine 163 = .ok (.goto 30, 3) := by decide +kernel
theorem dX7_readLine_166 : decode cX7_readLine 166 = .ok (.aload_n 0, 1) := by decide +kernel
theorem dX7_readLine_167 : decode cX7_readLine 167 = .ok (.getfield 125, 3) := by decide +kernel
theorem dX7_readLine_170 : decode cX7_readLine 170 = .ok (.bipush 9, 2) := by decide +kernel
theorem dX7_readLine_172 : decode cX7_readLine 172 = .ok (.if_icmp .ne 10, 3) := by decide +kernel
theorem dX7_readLine_175 : decode cX7_readLine 175 = .ok (.aload_n 0, 1) := by decide +kernel
theorem dX7_readLine_176 : decode cX7_readLine 176 = .ok (.invokevirtual 211, 3) := by decide +kernel
theorem dX7_readLine_179 : decode cX7_readLine 179 = .ok (.goto 14, 3) := by decide +kernel
theorem dX7_readLine_182 : decode cX7_readLine 182 = .ok (.aload_n 0, 1) := by decide +kernel
theorem dX7_readLine_183 : decode cX7_readLine 183 = .ok (.bipush 10, 2) := by decide +kernel
theorem dX7_readLine_185 : decode cX7_readLine 185 = .ok (.bipush 9, 2) := by decide +kernel
theorem dX7_readLine_187 : decode cX7_readLine 187 = .ok (.iconst 0, 1) := by decide +kernel
theorem dX7_readLine_188 : decode cX7_readLine 188 = .ok (.ldc 134, 2) := by decide +kernel
theorem dX7_readLine_190 : decode cX7_readLine 190 = .ok (.invokevirtual 177, 3) := by decide +kernel
theorem dX7_readLine_193 : decode cX7_readLine 193 = .ok (.aload_n 0, 1) := by decide +kernel
theorem dX7_readLine_194 : decode cX7_readLine 194 = .ok (.getfield 146, 3) := by decide +kernel
theorem dX7_readLine_197 : decode cX7_readLine 197 = .ok (.ifCond .ne 16, 3) := by decide +kernel
theorem dX7_readLine_200 : decode cX7_readLine 200 = .ok (.aload_n 0, 1) := by decide +kernel
theorem dX7_readLine_201 : decode cX7_readLine 201 = .ok (.getfield 115, 3) := by decide +kernel
theorem dX7_readLine_204 : decode cX7_readLine 204 = .ok (.iconst 3, 1) := by decide +kernel
theorem dX7_readLine_205 : decode cX7_readLine 205 = .ok (.if_icmp .eq 8, 3) := by decide +kernel
theorem dX7_readLine_208 : decode cX7_readLine 208 = .ok (.aload_n 0, 1) := by decide +kernel
theorem dX7_readLine_209 : decode cX7_readLine 209 = .ok (.iconst 1, 1) := by decide +kernel
theorem dX7_readLine_210 : decode cX7_readLine 210 = .ok (.invokevirtual 155, 3) := by decide +kernel
theorem dX7_readLine_213 : decode cX7_readLine 213 = .ok (.aload_n 0, 1) := by decide +kernel
theorem dX7_readLine_214 : decode cX7_readLine 214 = .ok (.invokevirtual 159, 3) := by decide +kernel
theorem dX7_readLine_217 : decode cX7_readLine 217 = .ok (.aload_n 0, 1) := by decide +kernel
theorem dX7_readLine_218 : decode cX7_readLine 218 = .ok (.dup, 1) := by decide +kernel
theorem dX7_readLine_219 : decode cX7_readLine 219 = .ok (.getfield 214, 3) := by decide +kernel
theorem dX7_readLine_222 : decode cX7_readLine 222 = .ok (.iconst 1, 1) := by decide +kernel
theorem dX7_readLine_223 : decode cX7_readLine 223 = .ok (.iadd, 1) := by decide +kernel
theorem dX7_readLine_224 : decode cX7_readLine 224 = .ok (.putfield 214, 3) := by decide +kernel
theorem dX7_readLine_227 : decode cX7_readLine 227 = .ok (.return_, 1) := by decide +kernel
theorem dX7_freshText_0 : decode cX7_freshText 0 = .ok (.iconst 0, 1) := by decide +kernel
theorem dX7_freshText_1 : decode cX7_freshText 1 = .ok (.istore_n 1, 1) := by decide +kernel
theorem dX7_freshText_2 : decode cX7_freshText 2 = .ok (.iload_n 1, 1) := by decide +kernel
theorem dX7_freshText_3 : decode cX7_freshText 3 = .ok (.bipush 10, 2) := by decide +kernel
theorem dX7_freshText_5 : decode cX7_freshText 5 = .ok (.if_icmp .ge 15, 3) := by decide +kernel
theorem dX7_freshText_8 : decode cX7_freshText 8 = .ok (.aload_n 0, 1) := by decide +kernel
theorem dX7_freshText_9 : decode cX7_freshText 9 = .ok (.iload_n 1, 1) := by decide +kernel
theorem dX7_freshText_10 : decode cX7_freshText 10 = .ok (.iconst 0, 1) := by decide +kernel
theorem dX7_freshText_11 : decode cX7_freshText 11 = .ok (.invokevirtual 169, 3) := by decide +kernel
theorem dX7_freshText_14 : decode cX7_freshText 14 = .ok (.iinc 1 1, 3) := by decide +kernel
theorem dX7_freshText_17 : decode cX7_freshText 17 = .ok (.goto (-15), 3) := by decide +kernel
theorem dX7_freshText_20 : decode cX7_freshText 20 = .ok (.aload_n 0, 1) := by decide +kernel
theorem dX7_freshText_21 : decode cX7_freshText 21 = .ok (.iconst 0, 1) := by decide +kernel
theorem dX7_freshText_22 : decode cX7_freshText 22 = .ok (.bipush 30, 2) := by decide +kernel
theorem dX7_freshText_24 : decode cX7_freshText 24 = .ok (.invokevirtual 169, 3) := by decide +kernel
theorem dX7_freshText_27 : decode cX7_freshText 27 = .ok (.aload_n 0, 1) := by decide +kernel
theorem dX7_freshText_28 : decode cX7_freshText 28 = .ok (.iconst 2, 1) := by decide +kernel
theorem dX7_freshText_29 : decode cX7_freshText 29 = .ok (.iconst 1, 1) := by decide +kernel
theorem dX7_freshText_30 : decode cX7_freshText 30 = .ok (.invokevirtual 169, 3) := by decide +kernel
theorem dX7_freshText_33 : decode cX7_freshText 33 = .ok (.aload_n 0, 1) := by decide +kernel
theorem dX7_freshText_34 : decode cX7_freshText 34 = .ok (.iconst 3, 1) := by decide +kernel
theorem dX7_freshText_35 : decode cX7_freshText 35 = .ok (.iconst 2, 1) := by decide +kernel
theorem dX7_freshText_36 : decode cX7_freshText 36 = .ok (.invokevirtual 169, 3) := by decide +kernel
theorem dX7_freshText_39 : decode cX7_freshText 39 = .ok (.aload_n 0, 1) := by decide +kernel
theorem dX7_freshText_40 : decode cX7_freshText 40 = .ok (.iconst 4, 1) := by decide +kernel
theorem dX7_freshText_41 : decode cX7_freshText 41 = .ok (.iconst 5, 1) := by decide +kernel
theorem dX7_freshText_42 : decode cX7_freshText 42 = .ok (.invokevirtual 169, 3) := by decide +kernel
theorem dX7_freshText_45 : decode cX7_freshText 45 = .ok (.aload_n 0, 1) := by decide +kernel
theorem dX7_freshText_46 : decode cX7_freshText 46 = .ok (.iconst 5, 1) := by decide +kernel
theorem dX7_freshText_47 : decode cX7_freshText 47 = .ok (.bipush 10, 2) := by decide +kernel
theorem dX7_freshText_49 : decode cX7_freshText 49 = .ok (.invokevirtual 169, 3) := by decide +kernel
theorem dX7_freshText_52 : decode cX7_freshText 52 = .ok (.aload_n 0, 1) := by decide +kernel
theorem dX7_freshText_53 : decode cX7_freshText 53 = .ok (.bipush 6, 2) := by decide +kernel
theorem dX7_freshText_55 : decode cX7_freshText 55 = .ok (.bipush 20, 2) := by decide +kernel
theorem dX7_freshText_57 : decode cX7_freshText 57 = .ok (.invokevirtual 169, 3) := by decide +kernel
theorem dX7_freshText_60 : decode cX7_freshText 60 = .ok (.iconst 0, 1) := by decide +kernel
theorem dX7_freshText_61 : decode cX7_freshText 61 = .ok (.istore_n 1, 1) := by decide +kernel
theorem dX7_freshText_62 : decode cX7_freshText 62 = .ok (.iload_n 1, 1) := by decide +kernel
theorem dX7_freshText_63 : decode cX7_freshText 63 = .ok (.bipush 9, 2) := by decide +kernel
theorem dX7_freshText_65 : decode cX7_freshText 65 = .ok (.if_icmp .ge 20, 3) := by decide +kernel
theorem dX7_freshText_68 : decode cX7_freshText 68 = .ok (.aload_n 0, 1) := by decide +kernel
theorem dX7_freshText_69 : decode cX7_freshText 69 = .ok (.getfield 41, 3) := by decide +kernel
theorem dX7_freshText_72 : decode cX7_freshText 72 = .ok (.bipush 9, 2) := by decide +kernel
theorem dX7_freshText_74 : decode cX7_freshText 74 = .ok (.iload_n 1, 1) := by decide +kernel
theorem dX7_freshText_75 : decode cX7_freshText 75 = .ok (.iadd, 1) := by decide +kernel
theorem dX7_freshText_76 : decode cX7_freshText 76 = .ok (.bipush (-2), 2) := by decide +kernel
theorem dX7_freshText_78 : decode cX7_freshText 78 = .ok (.iastore, 1) := by decide +kernel
theorem dX7_freshText_79 : decode cX7_freshText 79 = .ok (.iinc 1 1, 3) := by decide +kernel
theorem dX7_freshText_82 : decode cX7_freshText 82 = .ok (.goto (-20), 3) := by decide +kernel
theorem dX7_freshText_85 : decode cX7_freshText 85 = .ok (.iconst 0, 1) := by decide +kernel
theorem dX7_freshText_86 : decode cX7_freshText 86 = .ok (.istore_n 1, 1) := by decide +kernel
theorem dX7_freshText_87 : decode cX7_freshText 87 = .ok (.iload_n 1, 1) := by decide +kernel
theorem dX7_freshText_88 : decode cX7_freshText 88 = .ok (.bipush 11, 2) := by decide +kernel
theorem dX7_freshText_90 : decode cX7_freshText 90 = .ok (.if_icmp .ge 16, 3) := by decide +kernel
theorem dX7_freshText_93 : decode cX7_freshText 93 = .ok (.aload_n 0, 1) := by decide +kernel
theorem dX7_freshText_94 : decode cX7_freshText 94 = .ok (.getfield 16, 3) := by decide +kernel
theorem dX7_freshText_97 : decode cX7_freshText 97 = .ok (.iload_n 1, 1) := by decide +kernel
theorem dX7_freshText_98 : decode cX7_freshText 98 = .ok (.iconst 0, 1) := by decide +kernel
theorem dX7_freshText_99 : decode cX7_freshText 99 = .ok (.bastore, 1) := by decide +kernel
theorem dX7_freshText_100 : decode cX7_freshText 100 = .ok (.iinc 1 1, 3) := by decide +kernel
theorem dX7_freshText_103 : decode cX7_freshText 103 = .ok (.goto (-16), 3) := by decide +kernel
theorem dX7_freshText_106 : decode cX7_freshText 106 = .ok (.iconst 0, 1) := by decide +kernel
theorem dX7_freshText_107 : decode cX7_freshText 107 = .ok (.istore_n 1, 1) := by decide +kernel
theorem dX7_freshText_108 : decode cX7_freshText 108 = .ok (.iload_n 1, 1) := by decide +kernel
theorem dX7_freshText_109 : decode cX7_freshText 109 = .ok (.bipush 61, 2) := by decide +kernel
theorem dX7_freshText_111 : decode cX7_freshText 111 = .ok (.if_icmp .ge 19, 3) := by decide +kernel
theorem dX7_freshText_114 : decode cX7_freshText 114 = .ok (.aload_n 0, 1) := by decide +kernel
theorem dX7_freshText_115 : decode cX7_freshText 115 = .ok (.getfield 44, 3) := by decide +kernel
theorem dX7_freshText_118 : decode cX7_freshText 118 = .ok (.bipush 61, 2) := by decide +kernel
theorem dX7_freshText_120 : decode cX7_freshText 120 = .ok (.iload_n 1, 1) := by decide +kernel
theorem dX7_freshText_121 : decode cX7_freshText 121 = .ok (.iadd, 1) := by decide +kernel
theorem dX7_freshText_122 : decode cX7_freshText 122 = .ok (.iconst 0, 1) := by decide +kernel
theorem dX7_freshText_123 : decode cX7_freshText 123 = .ok (.bastore, 1) := by decide +kernel
theorem dX7_freshText_124 : decode cX7_freshText 124 = .ok (.iinc 1 1, 3) := by decide +kernel
theorem dX7_freshText_127 : decode cX7_freshText 127 = .ok (.goto (-19), 3) := by decide +kernel
theorem dX7_freshText_130 : decode cX7_freshText 130 = .ok (.aload_n 0, 1) := by decide +kernel
theorem dX7_freshText_131 : decode cX7_freshText 131 = .ok (.iconst 0, 1) := by decide +kernel
theorem dX7_freshText_132 : decode cX7_freshText 132 = .ok (.putfield 173, 3) := by decide +kernel
theorem dX7_freshText_135 : decode cX7_freshText 135 = .ok (.return_, 1) := by decide +kernel
theorem dX7_readText_0 : decode cX7_readText 0 = .ok (.aload_n 0, 1) := by decide +kernel
theorem dX7_readText_1 : decode cX7_readText 1 = .ok (.iload_n 1, 1) := by decide +kernel
theorem dX7_readText_2 : decode cX7_readText 2 = .ok (.putfield 105, 3) := by decide +kernel
theorem dX7_readText_5 : decode cX7_readText 5 = .ok (.aload_n 0, 1) := by decide +kernel
theorem dX7_readText_6 : decode cX7_readText 6 = .ok (.iconst 0, 1) := by decide +kernel
theorem dX7_readText_7 : decode cX7_readText 7 = .ok (.putfield 102, 3) := by decide +kernel
theorem dX7_readText_10 : decode cX7_readText 10 = .ok (.aload_n 0, 1) := by decide +kernel
theorem dX7_readText_11 : decode cX7_readText 11 = .ok (.iconst 0, 1) := by decide +kernel
theorem dX7_readText_12 : decode cX7_readText 12 = .ok (.putfield 146, 3) := by decide +kernel
theorem dX7_readText_15 : decode cX7_readText 15 = .ok (.aload_n 0, 1) := by decide +kernel
theorem dX7_readText_16 : decode cX7_readText 16 = .ok (.iconst 0, 1) := by decide +kernel
theorem dX7_readText_17 : decode cX7_readText 17 = .ok (.putfield 214, 3) := by decide +kernel
theorem dX7_readText_20 : decode cX7_readText 20 = .ok (.aload_n 0, 1) := by decide +kernel
theorem dX7_readText_21 : decode cX7_readText 21 = .ok (.invokevirtual 87, 3) := by decide +kernel
theorem dX7_readText_24 : decode cX7_readText 24 = .ok (.aload_n 0, 1) := by decide +kernel
theorem dX7_readText_25 : decode cX7_readText 25 = .ok (.invokevirtual 152, 3) := by decide +kernel
theorem dX7_readText_28 : decode cX7_readText 28 = .ok (.aload_n 0, 1) := by decide +kernel
theorem dX7_readText_29 : decode cX7_readText 29 = .ok (.getfield 146, 3) := by decide +kernel
theorem dX7_readText_32 : decode cX7_readText 32 = .ok (.ifCond .ne 18, 3) := by decide +kernel
theorem dX7_readText_35 : decode cX7_readText 35 = .ok (.aload_n 0, 1) := by decide +kernel
theorem dX7_readText_36 : decode cX7_readText 36 = .ok (.getfield 115, 3) := by decide +kernel
theorem dX7_readText_39 : decode cX7_readText 39 = .ok (.iconst 4, 1) := by decide +kernel
theorem dX7_readText_40 : decode cX7_readText 40 = .ok (.if_icmp .eq 10, 3) := by decide +kernel
theorem dX7_readText_43 : decode cX7_readText 43 = .ok (.aload_n 0, 1) := by decide +kernel
theorem dX7_readText_44 : decode cX7_readText 44 = .ok (.invokevirtual 217, 3) := by decide +kernel
theorem dX7_readText_47 : decode cX7_readText 47 = .ok (.goto (-19), 3) := by decide +kernel
theorem dX7_readText_50 : decode cX7_readText 50 = .ok (.return_, 1) := by decide +kernel
theorem dX7_takeText_0 : decode cX7_takeText 0 = .ok (.iconst 0, 1) := by decide +kernel
theorem dX7_takeText_1 : decode cX7_takeText 1 = .ok (.istore_n 1, 1) := by decide +kernel
theorem dX7_takeText_2 : decode cX7_takeText 2 = .ok (.iload_n 1, 1) := by decide +kernel
theorem dX7_takeText_3 : decode cX7_takeText 3 = .ok (.bipush 10, 2) := by decide +kernel
theorem dX7_takeText_5 : decode cX7_takeText 5 = .ok (.if_icmp .ge 20, 3) := by decide +kernel
theorem dX7_takeText_8 : decode cX7_takeText 8 = .ok (.aload_n 0, 1) := by decide +kernel
theorem dX7_takeText_9 : decode cX7_takeText 9 = .ok (.getfield 13, 3) := by decide +kernel
theorem dX7_takeText_12 : decode cX7_takeText 12 = .ok (.iload_n 1, 1) := by decide +kernel
theorem dX7_takeText_13 : decode cX7_takeText 13 = .ok (.aload_n 0, 1) := by decide +kernel
theorem dX7_takeText_14 : decode cX7_takeText 14 = .ok (.iload_n 1, 1) := by decide +kernel
theorem dX7_takeText_15 : decode cX7_takeText 15 = .ok (.invokevirtual 181, 3) := by decide +kernel
theorem dX7_takeText_18 : decode cX7_takeText 18 = .ok (.iastore, 1) := by decide +kernel
theorem dX7_takeText_19 : decode cX7_takeText 19 = .ok (.iinc 1 1, 3) := by decide +kernel
theorem dX7_takeText_22 : decode cX7_takeText 22 = .ok (.goto (-20), 3) := by decide +kernel
theorem dX7_takeText_25 : decode cX7_takeText 25 = .ok (.iconst 0, 1) := by decide +kernel
theorem dX7_takeText_26 : decode cX7_takeText 26 = .ok (.istore_n 1, 1) := by decide +kernel
theorem dX7_takeText_27 : decode cX7_takeText 27 = .ok (.iload_n 1, 1) := by decide +kernel
theorem dX7_takeText_28 : decode cX7_takeText 28 = .ok (.bipush 6, 2) := by decide +kernel
theorem dX7_takeText_30 : decode cX7_takeText 30 = .ok (.if_icmp .ge 114, 3) := by decide +kernel
theorem dX7_takeText_33 : decode cX7_takeText 33 = .ok (.aload_n 0, 1) := by decide +kernel
theorem dX7_takeText_34 : decode cX7_takeText 34 = .ok (.getfield 20, 3) := by decide +kernel
theorem dX7_takeText_37 : decode cX7_takeText 37 = .ok (.iload_n 1, 1) := by decide +kernel
theorem dX7_takeText_38 : decode cX7_takeText 38 = .ok (.aload_n 0, 1) := by decide +kernel
theorem dX7_takeText_39 : decode cX7_takeText 39 = .ok (.getfield 20, 3) := by decide +kernel
theorem dX7_takeText_42 : decode cX7_takeText 42 = .ok (.bipush 6, 2) := by decide +kernel
theorem dX7_takeText_44 : decode cX7_takeText 44 = .ok (.iload_n 1, 1) := by decide +kernel
theorem dX7_takeText_45 : decode cX7_takeText 45 = .ok (.iadd, 1) := by decide +kernel
theorem dX7_takeText_46 : decode cX7_takeText 46 = .ok (.iaload, 1) := by decide +kernel
theorem dX7_takeText_47 : decode cX7_takeText 47 = .ok (.iastore, 1) := by decide +kernel
theorem dX7_takeText_48 : decode cX7_takeText 48 = .ok (.aload_n 0, 1) := by decide +kernel
theorem dX7_takeText_49 : decode cX7_takeText 49 = .ok (.getfield 23, 3) := by decide +kernel
theorem dX7_takeText_52 : decode cX7_takeText 52 = .ok (.iload_n 1, 1) := by decide +kernel
theorem dX7_takeText_53 : decode cX7_takeText 53 = .ok (.aload_n 0, 1) := by decide +kernel
theorem dX7_takeText_54 : decode cX7_takeText 54 = .ok (.getfield 23, 3) := by decide +kernel
theorem dX7_takeText_57 : decode cX7_takeText 57 = .ok (.bipush 6, 2) := by decide +kernel
theorem dX7_takeText_59 : decode cX7_takeText 59 = .ok (.iload_n 1, 1) := by decide +kernel
theorem dX7_takeText_60 : decode cX7_takeText 60 = .ok (.iadd, 1) := by decide +kernel
theorem dX7_takeText_61 : decode cX7_takeText 61 = .ok (.iaload, 1) := by decide +kernel
theorem dX7_takeText_62 : decode cX7_takeText 62 = .ok (.iastore, 1) := by decide +kernel
theorem dX7_takeText_63 : decode cX7_takeText 63 = .ok (.aload_n 0, 1) := by decide +kernel
theorem dX7_takeText_64 : decode cX7_takeText 64 = .ok (.getfield 26, 3) := by decide +kernel
theorem dX7_takeText_67 : decode cX7_takeText 67 = .ok (.iload_n 1, 1) := by decide +kernel
theorem dX7_takeText_68 : decode cX7_takeText 68 = .ok (.aload_n 0, 1) := by decide +kernel
theorem dX7_takeText_69 : decode cX7_takeText 69 = .ok (.getfield 26, 3) := by decide +kernel
theorem dX7_takeText_72 : decode cX7_takeText 72 = .ok (.bipush 6, 2) := by decide +kernel
theorem dX7_takeText_74 : decode cX7_takeText 74 = .ok (.iload_n 1, 1) := by decide +kernel
theorem dX7_takeText_75 : decode cX7_takeText 75 = .ok (.iadd, 1) := by decide +kernel
theorem dX7_takeText_76 : decode cX7_takeText 76 = .ok (.iaload, 1) := by decide +kernel
theorem dX7_takeText_77 : decode cX7_takeText 77 = .ok (.iastore, 1) := by decide +kernel
theorem dX7_takeText_78 : decode cX7_takeText 78 = .ok (.aload_n 0, 1) := by decide +kernel
theorem dX7_takeText_79 : decode cX7_takeText 79 = .ok (.getfield 29, 3) := by decide +kernel
theorem dX7_takeText_82 : decode cX7_takeText 82 = .ok (.iload_n 1, 1) := by decide +kernel
theorem dX7_takeText_83 : decode cX7_takeText 83 = .ok (.aload_n 0, 1) := by decide +kernel
theorem dX7_takeText_84 : decode cX7_takeText 84 = .ok (.getfield 29, 3) := by decide +kernel
theorem dX7_takeText_87 : decode cX7_takeText 87 = .ok (.bipush 6, 2) := by decide +kernel
theorem dX7_takeText_89 : decode cX7_takeText 89 = .ok (.iload_n 1, 1) := by decide +kernel
theorem dX7_takeText_90 : decode cX7_takeText 90 = .ok (.iadd, 1) := by decide +kernel
theorem dX7_takeText_91 : decode cX7_takeText 91 = .ok (.iaload, 1) := by decide +kernel
theorem dX7_takeText_92 : decode cX7_takeText 92 = .ok (.iastore, 1) := by decide +kernel
theorem dX7_takeText_93 : decode cX7_takeText 93 = .ok (.aload_n 0, 1) := by decide +kernel
theorem dX7_takeText_94 : decode cX7_takeText 94 = .ok (.getfield 32, 3) := by decide +kernel
theorem dX7_takeText_97 : decode cX7_takeText 97 = .ok (.iload_n 1, 1) := by decide +kernel
theorem dX7_takeText_98 : decode cX7_takeText 98 = .ok (.aload_n 0, 1) := by decide +kernel
theorem dX7_takeText_99 : decode cX7_takeText 99 = .ok (.getfield 32, 3) := by decide +kernel
theorem dX7_takeText_102 : decode cX7_takeText 102 = .ok (.bipush 6, 2) := by decide +kernel
theorem dX7_takeText_104 : decode cX7_takeText 104 = .ok (.iload_n 1, 1) := by decide +kernel
theorem dX7_takeText_105 : decode cX7_takeText 105 = .ok (.iadd, 1) := by decide +kernel
theorem dX7_takeText_106 : decode cX7_takeText 106 = .ok (.iaload, 1) := by decide +kernel
theorem dX7_takeText_107 : decode cX7_takeText 107 = .ok (.iastore, 1) := by decide +kernel
theorem dX7_takeText_108 : decode cX7_takeText 108 = .ok (.aload_n 0, 1) := by decide +kernel
theorem dX7_takeText_109 : decode cX7_takeText 109 = .ok (.getfield 35, 3) := by decide +kernel
theorem dX7_takeText_112 : decode cX7_takeText 112 = .ok (.iload_n 1, 1) := by decide +kernel
theorem dX7_takeText_113 : decode cX7_takeText 113 = .ok (.aload_n 0, 1) := by decide +kernel
theorem dX7_takeText_114 : decode cX7_takeText 114 = .ok (.getfield 35, 3) := by decide +kernel
theorem dX7_takeText_117 : decode cX7_takeText 117 = .ok (.bipush 6, 2) := by decide +kernel
theorem dX7_takeText_119 : decode cX7_takeText 119 = .ok (.iload_n 1, 1) := by decide +kernel
theorem dX7_takeText_120 : decode cX7_takeText 120 = .ok (.iadd, 1) := by decide +kernel
theorem dX7_takeText_121 : decode cX7_takeText 121 = .ok (.iaload, 1) := by decide +kernel
theorem dX7_takeText_122 : decode cX7_takeText 122 = .ok (.iastore, 1) := by decide +kernel
theorem dX7_takeText_123 : decode cX7_takeText 123 = .ok (.aload_n 0, 1) := by decide +kernel
theorem dX7_takeText_124 : decode cX7_takeText 124 = .ok (.getfield 38, 3) := by decide +kernel
theorem dX7_takeText_127 : decode cX7_takeText 127 = .ok (.iload_n 1, 1) := by decide +kernel
theorem dX7_takeText_128 : decode cX7_takeText 128 = .ok (.aload_n 0, 1) := by decide +kernel
theorem dX7_takeText_129 : decode cX7_takeText 129 = .ok (.getfield 38, 3) := by decide +kernel
theorem dX7_takeText_132 : decode cX7_takeText 132 = .ok (.bipush 6, 2) := by decide +kernel
theorem dX7_takeText_134 : decode cX7_takeText 134 = .ok (.iload_n 1, 1) := by decide +kernel
theorem dX7_takeText_135 : decode cX7_takeText 135 = .ok (.iadd, 1) := by decide +kernel
theorem dX7_takeText_136 : decode cX7_takeText 136 = .ok (.iaload, 1) := by decide +kernel
theorem dX7_takeText_137 : decode cX7_takeText 137 = .ok (.iastore, 1) := by decide +kernel
theorem dX7_takeText_138 : decode cX7_takeText 138 = .ok (.iinc 1 1, 3) := by decide +kernel
theorem dX7_takeText_141 : decode cX7_takeText 141 = .ok (.goto (-114), 3) := by decide +kernel
theorem dX7_takeText_144 : decode cX7_takeText 144 = .ok (.iconst 0, 1) := by decide +kernel
theorem dX7_takeText_145 : decode cX7_takeText 145 = .ok (.istore_n 1, 1) := by decide +kernel
theorem dX7_takeText_146 : decode cX7_takeText 146 = .ok (.iload_n 1, 1) := by decide +kernel
theorem dX7_takeText_147 : decode cX7_takeText 147 = .ok (.bipush 9, 2) := by decide +kernel
theorem dX7_takeText_149 : decode cX7_takeText 149 = .ok (.if_icmp .ge 24, 3) := by decide +kernel
theorem dX7_takeText_152 : decode cX7_takeText 152 = .ok (.aload_n 0, 1) := by decide +kernel
theorem dX7_takeText_153 : decode cX7_takeText 153 = .ok (.getfield 41, 3) := by decide +kernel
theorem dX7_takeText_156 : decode cX7_takeText 156 = .ok (.iload_n 1, 1) := by decide +kernel
theorem dX7_takeText_157 : decode cX7_takeText 157 = .ok (.aload_n 0, 1) := by decide +kernel
theorem dX7_takeText_158 : decode cX7_takeText 158 = .ok (.getfield 41, 3) := by decide +kernel
theorem dX7_takeText_161 : decode cX7_takeText 161 = .ok (.bipush 9, 2) := by decide +kernel
theorem dX7_takeText_163 : decode cX7_takeText 163 = .ok (.iload_n 1, 1) := by decide +kernel
theorem dX7_takeText_164 : decode cX7_takeText 164 = .ok (.iadd, 1) := by decide +kernel
theorem dX7_takeText_165 : decode cX7_takeText 165 = .ok (.iaload, 1) := by decide +kernel
theorem dX7_takeText_166 : decode cX7_takeText 166 = .ok (.iastore, 1) := by decide +kernel
theorem dX7_takeText_167 : decode cX7_takeText 167 = .ok (.iinc 1 1, 3) := by decide +kernel
theorem dX7_takeText_170 : decode cX7_takeText 170 = .ok (.goto (-24), 3) := by decide +kernel
theorem dX7_takeText_173 : decode cX7_takeText 173 = .ok (.iconst 0, 1) := by decide +kernel
theorem dX7_takeText_174 : decode cX7_takeText 174 = .ok (.istore_n 1, 1) := by decide +kernel
theorem dX7_takeText_175 : decode cX7_takeText 175 = .ok (.iload_n 1, 1) := by decide +kernel
theorem dX7_takeText_176 : decode cX7_takeText 176 = .ok (.bipush 61, 2) := by decide +kernel
theorem dX7_takeText_178 : decode cX7_takeText 178 = .ok (.if_icmp .ge 24, 3) := by decide +kernel
theorem dX7_takeText_181 : decode cX7_takeText 181 = .ok (.aload_n 0, 1) := by decide +kernel
theorem dX7_takeText_182 : decode cX7_takeText 182 = .ok (.getfield 44, 3) := by decide +kernel
theorem dX7_takeText_185 : decode cX7_takeText 185 = .ok (.iload_n 1, 1) := by decide +kernel
theorem dX7_takeText_186 : decode cX7_takeText 186 = .ok (.aload_n 0, 1) := by decide +kernel
theorem dX7_takeText_187 : decode cX7_takeText 187 = .ok (.getfield 44, 3) := by decide +kernel
theorem dX7_takeText_190 : decode cX7_takeText 190 = .ok (.bipush 61, 2) := by decide +kernel
theorem dX7_takeText_192 : decode cX7_takeText 192 = .ok (.iload_n 1, 1) := by decide +kernel
theorem dX7_takeText_193 : decode cX7_takeText 193 = .ok (.iadd, 1) := by decide +kernel
theorem dX7_takeText_194 : decode cX7_takeText 194 = .ok (.baload, 1) := by decide +kernel
theorem dX7_takeText_195 : decode cX7_takeText 195 = .ok (.bastore, 1) := by decide +kernel
theorem dX7_takeText_196 : decode cX7_takeText 196 = .ok (.iinc 1 1, 3) := by decide +kernel
theorem dX7_takeText_199 : decode cX7_takeText 199 = .ok (.goto (-24), 3) := by decide +kernel
theorem dX7_takeText_202 : decode cX7_takeText 202 = .ok (.return_, 1) := by decide +kernel
theorem dX7_text_0 : decode cX7_text 0 = .ok (.aload_n 0, 1) := by decide +kernel
theorem dX7_text_1 : decode cX7_text 1 = .ok (.iconst 0, 1) := by decide +kernel
theorem dX7_text_2 : decode cX7_text 2 = .ok (.putfield 96, 3) := by decide +kernel
theorem dX7_text_5 : decode cX7_text 5 = .ok (.iload_n 1, 1) := by decide +kernel
theorem dX7_text_6 : decode cX7_text 6 = .ok (.ifCond .lt 11, 3) := by decide +kernel
theorem dX7_text_9 : decode cX7_text 9 = .ok (.iload_n 1, 1) := by decide +kernel
theorem dX7_text_10 : decode cX7_text 10 = .ok (.aload_n 0, 1) := by decide +kernel
theorem dX7_text_11 : decode cX7_text 11 = .ok (.getfield 99, 3) := by decide +kernel
theorem dX7_text_14 : decode cX7_text 14 = .ok (.if_icmp .le 6, 3) := by decide +kernel
theorem dX7_text_17 : decode cX7_text 17 = .ok (.bipush (-2), 2) := by decide +kernel
theorem dX7_text_19 : decode cX7_text 19 = .ok (.ireturn, 1) := by decide +kernel
theorem dX7_text_20 : decode cX7_text 20 = .ok (.aload_n 0, 1) := by decide +kernel
theorem dX7_text_21 : decode cX7_text 21 = .ok (.iload_n 1, 1) := by decide +kernel
theorem dX7_text_22 : decode cX7_text 22 = .ok (.invokevirtual 220, 3) := by decide +kernel
theorem dX7_text_25 : decode cX7_text 25 = .ok (.aload_n 0, 1) := by decide +kernel
theorem dX7_text_26 : decode cX7_text 26 = .ok (.iconst 0, 1) := by decide +kernel
theorem dX7_text_27 : decode cX7_text 27 = .ok (.putfield 99, 3) := by decide +kernel
theorem dX7_text_30 : decode cX7_text 30 = .ok (.aload_n 0, 1) := by decide +kernel
theorem dX7_text_31 : decode cX7_text 31 = .ok (.aload_n 0, 1) := by decide +kernel
theorem dX7_text_32 : decode cX7_text 32 = .ok (.getfield 146, 3) := by decide +kernel
theorem dX7_text_35 : decode cX7_text 35 = .ok (.putfield 223, 3) := by decide +kernel
theorem dX7_text_38 : decode cX7_text 38 = .ok (.aload_n 0, 1) := by decide +kernel
theorem dX7_text_39 : decode cX7_text 39 = .ok (.aload_n 0, 1) := by decide +kernel
theorem dX7_text_40 : decode cX7_text 40 = .ok (.getfield 146, 3) := by decide +kernel
theorem dX7_text_43 : decode cX7_text 43 = .ok (.ifCond .ne 7, 3) := by decide +kernel
theorem dX7_text_46 : decode cX7_text 46 = .ok (.iconst (-1), 1) := by decide +kernel
theorem dX7_text_47 : decode cX7_text 47 = .ok (.goto 7, 3) := by decide +kernel
theorem dX7_text_50 : decode cX7_text 50 = .ok (.aload_n 0, 1) := by decide +kernel
theorem dX7_text_51 : decode cX7_text 51 = .ok (.getfield 149, 3) := by decide +kernel
theorem dX7_text_54 : decode cX7_text 54 = .ok (.putfield 47, 3) := by decide +kernel
theorem dX7_text_57 : decode cX7_text 57 = .ok (.aload_n 0, 1) := by decide +kernel
theorem dX7_text_58 : decode cX7_text 58 = .ok (.getfield 146, 3) := by decide +kernel
theorem dX7_text_61 : decode cX7_text 61 = .ok (.ifCond .eq 5, 3) := by decide +kernel
theorem dX7_text_64 : decode cX7_text 64 = .ok (.iconst (-1), 1) := by decide +kernel
theorem dX7_text_65 : decode cX7_text 65 = .ok (.ireturn, 1) := by decide +kernel
theorem dX7_text_66 : decode cX7_text 66 = .ok (.aload_n 0, 1) := by decide +kernel
theorem dX7_text_67 : decode cX7_text 67 = .ok (.invokevirtual 90, 3) := by decide +kernel
theorem dX7_text_70 : decode cX7_text 70 = .ok (.aload_n 0, 1) := by decide +kernel
theorem dX7_text_71 : decode cX7_text 71 = .ok (.invokevirtual 93, 3) := by decide +kernel
theorem dX7_text_74 : decode cX7_text 74 = .ok (.aload_n 0, 1) := by decide +kernel
theorem dX7_text_75 : decode cX7_text 75 = .ok (.iconst 0, 1) := by decide +kernel
theorem dX7_text_76 : decode cX7_text 76 = .ok (.putfield 226, 3) := by decide +kernel
theorem dX7_text_79 : decode cX7_text 79 = .ok (.aload_n 0, 1) := by decide +kernel
theorem dX7_text_80 : decode cX7_text 80 = .ok (.iconst 0, 1) := by decide +kernel
theorem dX7_text_81 : decode cX7_text 81 = .ok (.putfield 229, 3) := by decide +kernel
theorem dX7_text_84 : decode cX7_text 84 = .ok (.aload_n 0, 1) := by decide +kernel
theorem dX7_text_85 : decode cX7_text 85 = .ok (.getfield 214, 3) := by decide +kernel
theorem dX7_text_88 : decode cX7_text 88 = .ok (.ireturn, 1) := by decide +kernel
theorem dX7_fault_0 : decode cX7_fault 0 = .ok (.aload_n 0, 1) := by decide +kernel
theorem dX7_fault_1 : decode cX7_fault 1 = .ok (.iconst 0, 1) := by decide +kernel
theorem dX7_fault_2 : decode cX7_fault 2 = .ok (.putfield 96, 3) := by decide +kernel
theorem dX7_fault_5 : decode cX7_fault 5 = .ok (.iload_n 1, 1) := by decide +kernel
theorem dX7_fault_6 : decode cX7_fault 6 = .ok (.ifCond .ne 10, 3) := by decide +kernel
theorem dX7_fault_9 : decode cX7_fault 9 = .ok (.aload_n 0, 1) := by decide +kernel
theorem dX7_fault_10 : decode cX7_fault 10 = .ok (.getfield 223, 3) := by decide +kernel
theorem dX7_fault_13 : decode cX7_fault 13 = .ok (.goto 16, 3) := by decide +kernel
theorem dX7_fault_16 : decode cX7_fault 16 = .ok (.iload_n 1, 1) := by decide +kernel
theorem dX7_fault_17 : decode cX7_fault 17 = .ok (.iconst 1, 1) := by decide +kernel
theorem dX7_fault_18 : decode cX7_fault 18 = .ok (.if_icmp .ne 10, 3) := by decide +kernel
theorem dX7_fault_21 : decode cX7_fault 21 = .ok (.aload_n 0, 1) := by decide +kernel
theorem dX7_fault_22 : decode cX7_fault 22 = .ok (.getfield 47, 3) := by decide +kernel
theorem dX7_fault_25 : decode cX7_fault 25 = .ok (.goto 4, 3) := by decide +kernel
theorem dX7_fault_28 : decode cX7_fault 28 = .ok (.iconst (-1), 1) := by decide +kernel
theorem dX7_fault_29 : decode cX7_fault 29 = .ok (.ireturn, 1) := by decide +kernel
theorem dX7_users_0 : decode cX7_users 0 = .ok (.aload_n 0, 1) := by decide +kernel
theorem dX7_users_1 : decode cX7_users 1 = .ok (.getfield 13, 3) := by decide +kernel
theorem dX7_users_4 : decode cX7_users 4 = .ok (.bipush 7, 2) := by decide +kernel
theorem dX7_users_6 : decode cX7_users 6 = .ok (.iaload, 1) := by decide +kernel
theorem dX7_users_7 : decode cX7_users 7 = .ok (.ireturn, 1) := by decide +kernel
theorem dX7_named_0 : decode cX7_named 0 = .ok (.aload_n 0, 1) := by decide +kernel
theorem dX7_named_1 : decode cX7_named 1 = .ok (.iconst 0, 1) := by decide +kernel
theorem dX7_named_2 : decode cX7_named 2 = .ok (.putfield 96, 3) := by decide +kernel
theorem dX7_named_5 : decode cX7_named 5 = .ok (.aload_n 0, 1) := by decide +kernel
theorem dX7_named_6 : decode cX7_named 6 = .ok (.iconst 0, 1) := by decide +kernel
theorem dX7_named_7 : decode cX7_named 7 = .ok (.aload_n 0, 1) := by decide +kernel
theorem dX7_named_8 : decode cX7_named 8 = .ok (.invokevirtual 232, 3) := by decide +kernel
theorem dX7_named_11 : decode cX7_named 11 = .ok (.iload_n 1, 1) := by decide +kernel
theorem dX7_named_12 : decode cX7_named 12 = .ok (.invokevirtual 185, 3) := by decide +kernel
theorem dX7_named_15 : decode cX7_named 15 = .ok (.ireturn, 1) := by decide +kernel
theorem dX7_begins_0 : decode cX7_begins 0 = .ok (.iconst 0, 1) := by decide +kernel
theorem dX7_begins_1 : decode cX7_begins 1 = .ok (.istore_n 1, 1) := by decide +kernel
theorem dX7_begins_2 : decode cX7_begins 2 = .ok (.iload_n 1, 1) := by decide +kernel
theorem dX7_begins_3 : decode cX7_begins 3 = .ok (.bipush 79, 2) := by decide +kernel
theorem dX7_begins_5 : decode cX7_begins 5 = .ok (.if_icmp .ge 16, 3) := by decide +kernel
theorem dX7_begins_8 : decode cX7_begins 8 = .ok (.aload_n 0, 1) := by decide +kernel
theorem dX7_begins_9 : decode cX7_begins 9 = .ok (.getfield 51, 3) := by decide +kernel
theorem dX7_begins_12 : decode cX7_begins 12 = .ok (.iload_n 1, 1) := by decide +kernel
theorem dX7_begins_13 : decode cX7_begins 13 = .ok (.iconst 0, 1) := by decide +kernel
theorem dX7_begins_14 : decode cX7_begins 14 = .ok (.iastore, 1) := by decide +kernel
theorem dX7_begins_15 : decode cX7_begins 15 = .ok (.iinc 1 1, 3) := by decide +kernel
theorem dX7_begins_18 : decode cX7_begins 18 = .ok (.goto (-16), 3) := by decide +kernel
theorem dX7_begins_21 : decode cX7_begins 21 = .ok (.iconst 0, 1) := by decide +kernel
theorem dX7_begins_22 : decode cX7_begins 22 = .ok (.istore_n 1, 1) := by decide +kernel
theorem dX7_begins_23 : decode cX7_begins 23 = .ok (.iload_n 1, 1) := by decide +kernel
theorem dX7_begins_24 : decode cX7_begins 24 = .ok (.aload_n 0, 1) := by decide +kernel
theorem dX7_begins_25 : decode cX7_begins 25 = .ok (.invokevirtual 232, 3) := by decide +kernel
theorem dX7_begins_28 : decode cX7_begins 28 = .ok (.if_icmp .ge 68, 3) := by decide +kernel
theorem dX7_begins_31 : decode cX7_begins 31 = .ok (.aload_n 0, 1) := by decide +kernel
theorem dX7_begins_32 : decode cX7_begins 32 = .ok (.getfield 51, 3) := by decide +kernel
theorem dX7_begins_35 : decode cX7_begins 35 = .ok (.iconst 0, 1) := by decide +kernel
theorem dX7_begins_36 : decode cX7_begins 36 = .ok (.iload_n 1, 1) := by decide +kernel
theorem dX7_begins_37 : decode cX7_begins 37 = .ok (.iadd, 1) := by decide +kernel
theorem dX7_begins_38 : decode cX7_begins 38 = .ok (.aload_n 0, 1) := by decide +kernel
theorem dX7_begins_39 : decode cX7_begins 39 = .ok (.getfield 35, 3) := by decide +kernel
theorem dX7_begins_42 : decode cX7_begins 42 = .ok (.iload_n 1, 1) := by decide +kernel
theorem dX7_begins_43 : decode cX7_begins 43 = .ok (.iaload, 1) := by decide +kernel
theorem dX7_begins_44 : decode cX7_begins 44 = .ok (.iastore, 1) := by decide +kernel
theorem dX7_begins_45 : decode cX7_begins 45 = .ok (.aload_n 0, 1) := by decide +kernel
theorem dX7_begins_46 : decode cX7_begins 46 = .ok (.getfield 51, 3) := by decide +kernel
theorem dX7_begins_49 : decode cX7_begins 49 = .ok (.bipush 6, 2) := by decide +kernel
theorem dX7_begins_51 : decode cX7_begins 51 = .ok (.iload_n 1, 1) := by decide +kernel
theorem dX7_begins_52 : decode cX7_begins 52 = .ok (.iadd, 1) := by decide +kernel
theorem dX7_begins_53 : decode cX7_begins 53 = .ok (.aload_n 0, 1) := by decide +kernel
theorem dX7_begins_54 : decode cX7_begins 54 = .ok (.getfield 26, 3) := by decide +kernel
theorem dX7_begins_57 : decode cX7_begins 57 = .ok (.iload_n 1, 1) := by decide +kernel
theorem dX7_begins_58 : decode cX7_begins 58 = .ok (.iaload, 1) := by decide +kernel
theorem dX7_begins_59 : decode cX7_begins 59 = .ok (.iastore, 1) := by decide +kernel
theorem dX7_begins_60 : decode cX7_begins 60 = .ok (.aload_n 0, 1) := by decide +kernel
theorem dX7_begins_61 : decode cX7_begins 61 = .ok (.getfield 51, 3) := by decide +kernel
theorem dX7_begins_64 : decode cX7_begins 64 = .ok (.bipush 73, 2) := by decide +kernel
theorem dX7_begins_66 : decode cX7_begins 66 = .ok (.iload_n 1, 1) := by decide +kernel
theorem dX7_begins_67 : decode cX7_begins 67 = .ok (.iadd, 1) := by decide +kernel
theorem dX7_begins_68 : decode cX7_begins 68 = .ok (.aload_n 0, 1) := by decide +kernel
theorem dX7_begins_69 : decode cX7_begins 69 = .ok (.getfield 38, 3) := by decide +kernel
theorem dX7_begins_72 : decode cX7_begins 72 = .ok (.iload_n 1, 1) := by decide +kernel
theorem dX7_begins_73 : decode cX7_begins 73 = .ok (.iaload, 1) := by decide +kernel
theorem dX7_begins_74 : decode cX7_begins 74 = .ok (.ifCond .ne 9, 3) := by decide +kernel
theorem dX7_begins_77 : decode cX7_begins 77 = .ok (.sipush 255, 3) := by decide +kernel
theorem dX7_begins_80 : decode cX7_begins 80 = .ok (.goto 9, 3) := by decide +kernel
theorem dX7_begins_83 : decode cX7_begins 83 = .ok (.aload_n 0, 1) := by decide +kernel
theorem dX7_begins_84 : decode cX7_begins 84 = .ok (.getfield 38, 3) := by decide +kernel
theorem dX7_begins_87 : decode cX7_begins 87 = .ok (.iload_n 1, 1) := by decide +kernel
theorem dX7_begins_88 : decode cX7_begins 88 = .ok (.iaload, 1) := by decide +kernel
theorem dX7_begins_89 : decode cX7_begins 89 = .ok (.iastore, 1) := by decide +kernel
theorem dX7_begins_90 : decode cX7_begins 90 = .ok (.iinc 1 1, 3) := by decide +kernel
theorem dX7_begins_93 : decode cX7_begins 93 = .ok (.goto (-70), 3) := by decide +kernel
theorem dX7_begins_96 : decode cX7_begins 96 = .ok (.iconst 1, 1) := by decide +kernel
theorem dX7_begins_97 : decode cX7_begins 97 = .ok (.istore_n 1, 1) := by decide +kernel
theorem dX7_begins_98 : decode cX7_begins 98 = .ok (.iload_n 1, 1) := by decide +kernel
theorem dX7_begins_99 : decode cX7_begins 99 = .ok (.bipush 60, 2) := by decide +kernel
theorem dX7_begins_101 : decode cX7_begins 101 = .ok (.if_icmp .gt 32, 3) := by decide +kernel
theorem dX7_begins_104 : decode cX7_begins 104 = .ok (.aload_n 0, 1) := by decide +kernel
theorem dX7_begins_105 : decode cX7_begins 105 = .ok (.getfield 51, 3) := by decide +kernel
theorem dX7_begins_108 : decode cX7_begins 108 = .ok (.bipush 12, 2) := by decide +kernel
theorem dX7_begins_110 : decode cX7_begins 110 = .ok (.iload_n 1, 1) := by decide +kernel
theorem dX7_begins_111 : decode cX7_begins 111 = .ok (.iadd, 1) := by decide +kernel
theorem dX7_begins_112 : decode cX7_begins 112 = .ok (.aload_n 0, 1) := by decide +kernel
theorem dX7_begins_113 : decode cX7_begins 113 = .ok (.getfield 44, 3) := by decide +kernel
theorem dX7_begins_116 : decode cX7_begins 116 = .ok (.iload_n 1, 1) := by decide +kernel
theorem dX7_begins_117 : decode cX7_begins 117 = .ok (.baload, 1) := by decide +kernel
theorem dX7_begins_118 : decode cX7_begins 118 = .ok (.ifCond .eq 7, 3) := by decide +kernel
theorem dX7_begins_121 : decode cX7_begins 121 = .ok (.iconst 1, 1) := by decide +kernel
theorem dX7_begins_122 : decode cX7_begins 122 = .ok (.goto 4, 3) := by decide +kernel
theorem dX7_begins_125 : decode cX7_begins 125 = .ok (.iconst 0, 1) := by decide +kernel
theorem dX7_begins_126 : decode cX7_begins 126 = .ok (.iastore, 1) := by decide +kernel
theorem dX7_begins_127 : decode cX7_begins 127 = .ok (.iinc 1 1, 3) := by decide +kernel
theorem dX7_begins_130 : decode cX7_begins 130 = .ok (.goto (-32), 3) := by decide +kernel
theorem dX7_begins_133 : decode cX7_begins 133 = .ok (.aload_n 0, 1) := by decide +kernel
theorem dX7_begins_134 : decode cX7_begins 134 = .ok (.invokevirtual 235, 3) := by decide +kernel
theorem dX7_begins_137 : decode cX7_begins 137 = .ok (.return_, 1) := by decide +kernel
theorem dX7_asTold_0 : decode cX7_asTold 0 = .ok (.aload_n 0, 1) := by decide +kernel
theorem dX7_asTold_1 : decode cX7_asTold 1 = .ok (.aload_n 0, 1) := by decide +kernel
theorem dX7_asTold_2 : decode cX7_asTold 2 = .ok (.getfield 13, 3) := by decide +kernel
theorem dX7_asTold_5 : decode cX7_asTold 5 = .ok (.iconst 0, 1) := by decide +kernel
theorem dX7_asTold_6 : decode cX7_asTold 6 = .ok (.iaload, 1) := by decide +kernel
theorem dX7_asTold_7 : decode cX7_asTold 7 = .ok (.putfield 238, 3) := by decide +kernel
theorem dX7_asTold_10 : decode cX7_asTold 10 = .ok (.aload_n 0, 1) := by decide +kernel
theorem dX7_asTold_11 : decode cX7_asTold 11 = .ok (.aload_n 0, 1) := by decide +kernel
theorem dX7_asTold_12 : decode cX7_asTold 12 = .ok (.getfield 13, 3) := by decide +kernel
theorem dX7_asTold_15 : decode cX7_asTold 15 = .ok (.iconst 1, 1) := by decide +kernel
theorem dX7_asTold_16 : decode cX7_asTold 16 = .ok (.iaload, 1) := by decide +kernel
theorem dX7_asTold_17 : decode cX7_asTold 17 = .ok (.putfield 241, 3) := by decide +kernel
theorem dX7_asTold_20 : decode cX7_asTold 20 = .ok (.aload_n 0, 1) := by decide +kernel
theorem dX7_asTold_21 : decode cX7_asTold 21 = .ok (.aload_n 0, 1) := by decide +kernel
theorem dX7_asTold_22 : decode cX7_asTold 22 = .ok (.getfield 13, 3) := by decide +kernel
theorem dX7_asTold_25 : decode cX7_asTold 25 = .ok (.iconst 2, 1) := by decide +kernel
theorem dX7_asTold_26 : decode cX7_asTold 26 = .ok (.iaload, 1) := by decide +kernel
theorem dX7_asTold_27 : decode cX7_asTold 27 = .ok (.putfield 244, 3) := by decide +kernel
theorem dX7_asTold_30 : decode cX7_asTold 30 = .ok (.aload_n 0, 1) := by decide +kernel
theorem dX7_asTold_31 : decode cX7_asTold 31 = .ok (.aload_n 0, 1) := by decide +kernel
theorem dX7_asTold_32 : decode cX7_asTold 32 = .ok (.getfield 13, 3) := by decide +kernel
theorem dX7_asTold_35 : decode cX7_asTold 35 = .ok (.iconst 3, 1) := by decide +kernel
theorem dX7_asTold_36 : decode cX7_asTold 36 = .ok (.iaload, 1) := by decide +kernel
theorem dX7_asTold_37 : decode cX7_asTold 37 = .ok (.putfield 247, 3) := by decide +kernel
theorem dX7_asTold_40 : decode cX7_asTold 40 = .ok (.return_, 1) := by decide +kernel
theorem dX7_lays_0 : decode cX7_lays 0 = .ok (.iconst 0, 1) := by decide +kernel
theorem dX7_lays_1 : decode cX7_lays 1 = .ok (.istore_n 2, 1) := by decide +kernel
theorem dX7_lays_2 : decode cX7_lays 2 = .ok (.iload_n 2, 1) := by decide +kernel
theorem dX7_lays_3 : decode cX7_lays 3 = .ok (.bipush 79, 2) := by decide +kernel
theorem dX7_lays_5 : decode cX7_lays 5 = .ok (.if_icmp .ge 26, 3) := by decide +kernel
theorem dX7_lays_8 : decode cX7_lays 8 = .ok (.aload_n 0, 1) := by decide +kernel
theorem dX7_lays_9 : decode cX7_lays 9 = .ok (.getfield 54, 3) := by decide +kernel
theorem dX7_lays_12 : decode cX7_lays 12 = .ok (.bipush 79, 2) := by decide +kernel
theorem dX7_lays_14 : decode cX7_lays 14 = .ok (.iload_n 1, 1) := by decide +kernel
theorem dX7_lays_15 : decode cX7_lays 15 = .ok (.imul, 1) := by decide +kernel
theorem dX7_lays_16 : decode cX7_lays 16 = .ok (.iload_n 2, 1) := by decide +kernel
theorem dX7_lays_17 : decode cX7_lays 17 = .ok (.iadd, 1) := by decide +kernel
theorem dX7_lays_18 : decode cX7_lays 18 = .ok (.aload_n 0, 1) := by decide +kernel
theorem dX7_lays_19 : decode cX7_lays 19 = .ok (.getfield 51, 3) := by decide +kernel
theorem dX7_lays_22 : decode cX7_lays 22 = .ok (.iload_n 2, 1) := by decide +kernel
theorem dX7_lays_23 : decode cX7_lays 23 = .ok (.iaload, 1) := by decide +kernel
theorem dX7_lays_24 : decode cX7_lays 24 = .ok (.iastore, 1) := by decide +kernel
theorem dX7_lays_25 : decode cX7_lays 25 = .ok (.iinc 2 1, 3) := by decide +kernel
theorem dX7_lays_28 : decode cX7_lays 28 = .ok (.goto (-26), 3) := by decide +kernel
theorem dX7_lays_31 : decode cX7_lays 31 = .ok (.return_, 1) := by decide +kernel
theorem dX7_laysBack_0 : decode cX7_laysBack 0 = .ok (.iconst 0, 1) := by decide +kernel
theorem dX7_laysBack_1 : decode cX7_laysBack 1 = .ok (.istore_n 2, 1) := by decide +kernel
theorem dX7_laysBack_2 : decode cX7_laysBack 2 = .ok (.iload_n 2, 1) := by decide +kernel
theorem dX7_laysBack_3 : decode cX7_laysBack 3 = .ok (.bipush 79, 2) := by decide +kernel
theorem dX7_laysBack_5 : decode cX7_laysBack 5 = .ok (.if_icmp .ge 26, 3) := by decide +kernel
theorem dX7_laysBack_8 : decode cX7_laysBack 8 = .ok (.aload_n 0, 1) := by decide +kernel
theorem dX7_laysBack_9 : decode cX7_laysBack 9 = .ok (.getfield 51, 3) := by decide +kernel
theorem dX7_laysBack_12 : decode cX7_laysBack 12 = .ok (.iload_n 2, 1) := by decide +kernel
theorem dX7_laysBack_13 : decode cX7_laysBack 13 = .ok (.aload_n 0, 1) := by decide +kernel
theorem dX7_laysBack_14 : decode cX7_laysBack 14 = .ok (.getfield 54, 3) := by decide +kernel
theorem dX7_laysBack_17 : decode cX7_laysBack 17 = .ok (.bipush 79, 2) := by decide +kernel
theorem dX7_laysBack_19 : decode cX7_laysBack 19 = .ok (.iload_n 1, 1) := by decide +kernel
theorem dX7_laysBack_20 : decode cX7_laysBack 20 = .ok (.imul, 1) := by decide +kernel
theorem dX7_laysBack_21 : decode cX7_laysBack 21 = .ok (.iload_n 2, 1) := by decide +kernel
theorem dX7_laysBack_22 : decode cX7_laysBack 22 = .ok (.iadd, 1) := by decide +kernel
theorem dX7_laysBack_23 : decode cX7_laysBack 23 = .ok (.iaload, 1) := by decide +kernel
theorem dX7_laysBack_24 : decode cX7_laysBack 24 = .ok (.iastore, 1) := by decide +kernel
theorem dX7_laysBack_25 : decode cX7_laysBack 25 = .ok (.iinc 2 1, 3) := by decide +kernel
theorem dX7_laysBack_28 : decode cX7_laysBack 28 = .ok (.goto (-26), 3) := by decide +kernel
theorem dX7_laysBack_31 : decode cX7_laysBack 31 = .ok (.return_, 1) := by decide +kernel
theorem dX7_goesAside_0 : decode cX7_goesAside 0 = .ok (.iconst 0, 1) := by decide +kernel
theorem dX7_goesAside_1 : decode cX7_goesAside 1 = .ok (.istore_n 1, 1) := by decide +kernel
theorem dX7_goesAside_2 : decode cX7_goesAside 2 = .ok (.iload_n 1, 1) := by decide +kernel
theorem dX7_goesAside_3 : decode cX7_goesAside 3 = .ok (.bipush 79, 2) := by decide +kernel
theorem dX7_goesAside_5 : decode cX7_goesAside 5 = .ok (.if_icmp .ge 21, 3) := by decide +kernel
theorem dX7_goesAside_8 : decode cX7_goesAside 8 = .ok (.aload_n 0, 1) := by decide +kernel
theorem dX7_goesAside_9 : decode cX7_goesAside 9 = .ok (.getfield 57, 3) := by decide +kernel
theorem dX7_goesAside_12 : decode cX7_goesAside 12 = .ok (.iload_n 1, 1) := by decide +kernel
theorem dX7_goesAside_13 : decode cX7_goesAside 13 = .ok (.aload_n 0, 1) := by decide +kernel
theorem dX7_goesAside_14 : decode cX7_goesAside 14 = .ok (.getfield 51, 3) := by decide +kernel
theorem dX7_goesAside_17 : decode cX7_goesAside 17 = .ok (.iload_n 1, 1) := by decide +kernel
theorem dX7_goesAside_18 : decode cX7_goesAside 18 = .ok (.iaload, 1) := by decide +kernel
theorem dX7_goesAside_19 : decode cX7_goesAside 19 = .ok (.iastore, 1) := by decide +kernel
theorem dX7_goesAside_20 : decode cX7_goesAside 20 = .ok (.iinc 1 1, 3) := by decide +kernel
theorem dX7_goesAside_23 : decode cX7_goesAside 23 = .ok (.goto (-21), 3) := by decide +kernel
theorem dX7_goesAside_26 : decode cX7_goesAside 26 = .ok (.return_, 1) := by decide +kernel
theorem dX7_comesBack_0 : decode cX7_comesBack 0 = .ok (.iconst 0, 1) := by decide +kernel
theorem dX7_comesBack_1 : decode cX7_comesBack 1 = .ok (.istore_n 1, 1) := by decide +kernel
theorem dX7_comesBack_2 : decode cX7_comesBack 2 = .ok (.iload_n 1, 1) := by decide +kernel
theorem dX7_comesBack_3 : decode cX7_comesBack 3 = .ok (.bipush 79, 2) := by decide +kernel
theorem dX7_comesBack_5 : decode cX7_comesBack 5 = .ok (.if_icmp .ge 21, 3) := by decide +kernel
theorem dX7_comesBack_8 : decode cX7_comesBack 8 = .ok (.aload_n 0, 1) := by decide +kernel
theorem dX7_comesBack_9 : decode cX7_comesBack 9 = .ok (.getfield 51, 3) := by decide +kernel
theorem dX7_comesBack_12 : decode cX7_comesBack 12 = .ok (.iload_n 1, 1) := by decide +kernel
theorem dX7_comesBack_13 : decode cX7_comesBack 13 = .ok (.aload_n 0, 1) := by decide +kernel
theorem dX7_comesBack_14 : decode cX7_comesBack 14 = .ok (.getfield 57, 3) := by decide +kernel
theorem dX7_comesBack_17 : decode cX7_comesBack 17 = .ok (.iload_n 1, 1) := by decide +kernel
theorem dX7_comesBack_18 : decode cX7_comesBack 18 = .ok (.iaload, 1) := by decide +kernel
theorem dX7_comesBack_19 : decode cX7_comesBack 19 = .ok (.iastore, 1) := by decide +kernel
theorem dX7_comesBack_20 : decode cX7_comesBack 20 = .ok (.iinc 1 1, 3) := by decide +kernel
theorem dX7_comesBack_23 : decode cX7_comesBack 23 = .ok (.goto (-21), 3) := by decide +kernel
theorem dX7_comesBack_26 : decode cX7_comesBack 26 = .ok (.aload_n 0, 1) := by decide +kernel
theorem dX7_comesBack_27 : decode cX7_comesBack 27 = .ok (.invokevirtual 235, 3) := by decide +kernel
theorem dX7_comesBack_30 : decode cX7_comesBack 30 = .ok (.return_, 1) := by decide +kernel
theorem dX7_remembers_0 : decode cX7_remembers 0 = .ok (.aload_n 0, 1) := by decide +kernel
theorem dX7_remembers_1 : decode cX7_remembers 1 = .ok (.getfield 226, 3) := by decide +kernel
theorem dX7_remembers_4 : decode cX7_remembers 4 = .ok (.bipush 20, 2) := by decide +kernel
theorem dX7_remembers_6 : decode cX7_remembers 6 = .ok (.if_icmp .ne 43, 3) := by decide +kernel
theorem dX7_remembers_9 : decode cX7_remembers 9 = .ok (.iconst 0, 1) := by decide +kernel
theorem dX7_remembers_10 : decode cX7_remembers 10 = .ok (.istore_n 1, 1) := by decide +kernel
theorem dX7_remembers_11 : decode cX7_remembers 11 = .ok (.iload_n 1, 1) := by decide +kernel
theorem dX7_remembers_12 : decode cX7_remembers 12 = .ok (.sipush 1501, 3) := by decide +kernel
theorem dX7_remembers_15 : decode cX7_remembers 15 = .ok (.if_icmp .ge 24, 3) := by decide +kernel
theorem dX7_remembers_18 : decode cX7_remembers 18 = .ok (.aload_n 0, 1) := by decide +kernel
theorem dX7_remembers_19 : decode cX7_remembers 19 = .ok (.getfield 54, 3) := by decide +kernel
theorem dX7_remembers_22 : decode cX7_remembers 22 = .ok (.iload_n 1, 1) := by decide +kernel
theorem dX7_remembers_23 : decode cX7_remembers 23 = .ok (.aload_n 0, 1) := by decide +kernel
theorem dX7_remembers_24 : decode cX7_remembers 24 = .ok (.getfield 54, 3) := by decide +kernel
theorem dX7_remembers_27 : decode cX7_remembers 27 = .ok (.bipush 79, 2) := by decide +kernel
theorem dX7_remembers_29 : decode cX7_remembers 29 = .ok (.iload_n 1, 1) := by decide +kernel
theorem dX7_remembers_30 : decode cX7_remembers 30 = .ok (.iadd, 1) := by decide +kernel
theorem dX7_remembers_31 : decode cX7_remembers 31 = .ok (.iaload, 1) := by decide +kernel
theorem dX7_remembers_32 : decode cX7_remembers 32 = .ok (.iastore, 1) := by decide +kernel
theorem dX7_remembers_33 : decode cX7_remembers 33 = .ok (.iinc 1 1, 3) := by decide +kernel
theorem dX7_remembers_36 : decode cX7_remembers 36 = .ok (.goto (-25), 3) := by decide +kernel
theorem dX7_remembers_39 : decode cX7_remembers 39 = .ok (.aload_n 0, 1) := by decide +kernel
theorem dX7_remembers_40 : decode cX7_remembers 40 = .ok (.dup, 1) := by decide +kernel
theorem dX7_remembers_41 : decode cX7_remembers 41 = .ok (.getfield 226, 3) := by decide +kernel
theorem dX7_remembers_44 : decode cX7_remembers 44 = .ok (.iconst 1, 1) := by decide +kernel
theorem dX7_remembers_45 : decode cX7_remembers 45 = .ok (.isub, 1) := by decide +kernel
theorem dX7_remembers_46 : decode cX7_remembers 46 = .ok (.putfield 226, 3) := by decide +kernel
theorem dX7_remembers_49 : decode cX7_remembers 49 = .ok (.aload_n 0, 1) := by decide +kernel
theorem dX7_remembers_50 : decode cX7_remembers 50 = .ok (.aload_n 0, 1) := by decide +kernel
theorem dX7_remembers_51 : decode cX7_remembers 51 = .ok (.getfield 226, 3) := by decide +kernel
theorem dX7_remembers_54 : decode cX7_remembers 54 = .ok (.invokevirtual 250, 3) := by decide +kernel
theorem dX7_remembers_57 : decode cX7_remembers 57 = .ok (.aload_n 0, 1) := by decide +kernel
theorem dX7_remembers_58 : decode cX7_remembers 58 = .ok (.dup, 1) := by decide +kernel
theorem dX7_remembers_59 : decode cX7_remembers 59 = .ok (.getfield 226, 3) := by decide +kernel
theorem dX7_remembers_62 : decode cX7_remembers 62 = .ok (.iconst 1, 1) := by decide +kernel
theorem dX7_remembers_63 : decode cX7_remembers 63 = .ok (.iadd, 1) := by decide +kernel
theorem dX7_remembers_64 : decode cX7_remembers 64 = .ok (.putfield 226, 3) := by decide +kernel
theorem dX7_remembers_67 : decode cX7_remembers 67 = .ok (.return_, 1) := by decide +kernel
theorem dX7_undo_0 : decode cX7_undo 0 = .ok (.aload_n 0, 1) := by decide +kernel
theorem dX7_undo_1 : decode cX7_undo 1 = .ok (.iconst 0, 1) := by decide +kernel
theorem dX7_undo_2 : decode cX7_undo 2 = .ok (.putfield 96, 3) := by decide +kernel
theorem dX7_undo_5 : decode cX7_undo 5 = .ok (.aload_n 0, 1) := by decide +kernel
theorem dX7_undo_6 : decode cX7_undo 6 = .ok (.getfield 226, 3) := by decide +kernel
theorem dX7_undo_9 : decode cX7_undo 9 = .ok (.ifCond .ne 5, 3) := by decide +kernel
theorem dX7_undo_12 : decode cX7_undo 12 = .ok (.iconst (-1), 1) := by decide +kernel
theorem dX7_undo_13 : decode cX7_undo 13 = .ok (.ireturn, 1) := by decide +kernel
theorem dX7_undo_14 : decode cX7_undo 14 = .ok (.aload_n 0, 1) := by decide +kernel
theorem dX7_undo_15 : decode cX7_undo 15 = .ok (.dup, 1) := by decide +kernel
theorem dX7_undo_16 : decode cX7_undo 16 = .ok (.getfield 226, 3) := by decide +kernel
theorem dX7_undo_19 : decode cX7_undo 19 = .ok (.iconst 1, 1) := by decide +kernel
theorem dX7_undo_20 : decode cX7_undo 20 = .ok (.isub, 1) := by decide +kernel
theorem dX7_undo_21 : decode cX7_undo 21 = .ok (.putfield 226, 3) := by decide +kernel
theorem dX7_undo_24 : decode cX7_undo 24 = .ok (.aload_n 0, 1) := by decide +kernel
theorem dX7_undo_25 : decode cX7_undo 25 = .ok (.aload_n 0, 1) := by decide +kernel
theorem dX7_undo_26 : decode cX7_undo 26 = .ok (.getfield 226, 3) := by decide +kernel
theorem dX7_undo_29 : decode cX7_undo 29 = .ok (.invokevirtual 253, 3) := by decide +kernel
theorem dX7_undo_32 : decode cX7_undo 32 = .ok (.aload_n 0, 1) := by decide +kernel
theorem dX7_undo_33 : decode cX7_undo 33 = .ok (.getfield 226, 3) := by decide +kernel
theorem dX7_undo_36 : decode cX7_undo 36 = .ok (.ireturn, 1) := by decide +kernel
theorem dX7_tuned_0 : decode cX7_tuned 0 = .ok (.iconst 0, 1) := by decide +kernel
theorem dX7_tuned_1 : decode cX7_tuned 1 = .ok (.istore_n 1, 1) := by decide +kernel
theorem dX7_tuned_2 : decode cX7_tuned 2 = .ok (.iconst 0, 1) := by decide +kernel
theorem dX7_tuned_3 : decode cX7_tuned 3 = .ok (.istore_n 2, 1) := by decide +kernel
theorem dX7_tuned_4 : decode cX7_tuned 4 = .ok (.iload_n 2, 1) := by decide +kernel
theorem dX7_tuned_5 : decode cX7_tuned 5 = .ok (.aload_n 0, 1) := by decide +kernel
theorem dX7_tuned_6 : decode cX7_tuned 6 = .ok (.invokevirtual 232, 3) := by decide +kernel
theorem dX7_tuned_9 : decode cX7_tuned 9 = .ok (.if_icmp .ge 28, 3) := by decide +kernel
theorem dX7_tuned_12 : decode cX7_tuned 12 = .ok (.iload_n 1, 1) := by decide +kernel
theorem dX7_tuned_13 : decode cX7_tuned 13 = .ok (.aload_n 0, 1) := by decide +kernel
theorem dX7_tuned_14 : decode cX7_tuned 14 = .ok (.getfield 51, 3) := by decide +kernel
theorem dX7_tuned_17 : decode cX7_tuned 17 = .ok (.iconst 0, 1) := by decide +kernel
theorem dX7_tuned_18 : decode cX7_tuned 18 = .ok (.iload_n 2, 1) := by decide +kernel
theorem dX7_tuned_19 : decode cX7_tuned 19 = .ok (.iadd, 1) := by decide +kernel
theorem dX7_tuned_20 : decode cX7_tuned 20 = .ok (.iaload, 1) := by decide +kernel
theorem dX7_tuned_21 : decode cX7_tuned 21 = .ok (.ifCond .le 7, 3) := by decide +kernel
theorem dX7_tuned_24 : decode cX7_tuned 24 = .ok (.iconst 1, 1) := by decide +kernel
theorem dX7_tuned_25 : decode cX7_tuned 25 = .ok (.goto 4, 3) := by decide +kernel
theorem dX7_tuned_28 : decode cX7_tuned 28 = .ok (.iconst 0, 1) := by decide +kernel
theorem dX7_tuned_29 : decode cX7_tuned 29 = .ok (.iadd, 1) := by decide +kernel
theorem dX7_tuned_30 : decode cX7_tuned 30 = .ok (.istore_n 1, 1) := by decide +kernel
theorem dX7_tuned_31 : decode cX7_tuned 31 = .ok (.iinc 2 1, 3) := by decide +kernel
theorem dX7_tuned_34 : decode cX7_tuned 34 = .ok (.goto (-30), 3) := by decide +kernel
theorem dX7_tuned_37 : decode cX7_tuned 37 = .ok (.iload_n 1, 1) := by decide +kernel
theorem dX7_tuned_38 : decode cX7_tuned 38 = .ok (.ireturn, 1) := by decide +kernel
theorem dX7_keep_0 : decode cX7_keep 0 = .ok (.aload_n 0, 1) := by decide +kernel
theorem dX7_keep_1 : decode cX7_keep 1 = .ok (.iconst 0, 1) := by decide +kernel
theorem dX7_keep_2 : decode cX7_keep 2 = .ok (.putfield 96, 3) := by decide +kernel
theorem dX7_keep_5 : decode cX7_keep 5 = .ok (.aload_n 0, 1) := by decide +kernel
theorem dX7_keep_6 : decode cX7_keep 6 = .ok (.bipush 20, 2) := by decide +kernel
theorem dX7_keep_8 : decode cX7_keep 8 = .ok (.invokevirtual 250, 3) := by decide +kernel
theorem dX7_keep_11 : decode cX7_keep 11 = .ok (.aload_n 0, 1) := by decide +kernel
theorem dX7_keep_12 : decode cX7_keep 12 = .ok (.iconst 1, 1) := by decide +kernel
theorem dX7_keep_13 : decode cX7_keep 13 = .ok (.putfield 229, 3) := by decide +kernel
theorem dX7_keep_16 : decode cX7_keep 16 = .ok (.aload_n 0, 1) := by decide +kernel
theorem dX7_keep_17 : decode cX7_keep 17 = .ok (.invokevirtual 256, 3) := by decide +kernel
theorem dX7_keep_20 : decode cX7_keep 20 = .ok (.ireturn, 1) := by decide +kernel
theorem dX7_back_0 : decode cX7_back 0 = .ok (.aload_n 0, 1) := by decide +kernel
theorem dX7_back_1 : decode cX7_back 1 = .ok (.iconst 0, 1) := by decide +kernel
theorem dX7_back_2 : decode cX7_back 2 = .ok (.putfield 96, 3) := by decide +kernel
theorem dX7_back_5 : decode cX7_back 5 = .ok (.aload_n 0, 1) := by decide +kernel
theorem dX7_back_6 : decode cX7_back 6 = .ok (.getfield 229, 3) := by decide +kernel
theorem dX7_back_9 : decode cX7_back 9 = .ok (.ifCond .ne 5, 3) := by decide +kernel
theorem dX7_back_12 : decode cX7_back 12 = .ok (.iconst (-1), 1) := by decide +kernel
theorem dX7_back_13 : decode cX7_back 13 = .ok (.ireturn, 1) := by decide +kernel
theorem dX7_back_14 : decode cX7_back 14 = .ok (.aload_n 0, 1) := by decide +kernel
theorem dX7_back_15 : decode cX7_back 15 = .ok (.bipush 20, 2) := by decide +kernel
theorem dX7_back_17 : decode cX7_back 17 = .ok (.invokevirtual 253, 3) := by decide +kernel
theorem dX7_back_20 : decode cX7_back 20 = .ok (.aload_n 0, 1) := by decide +kernel
theorem dX7_back_21 : decode cX7_back 21 = .ok (.iconst 0, 1) := by decide +kernel
theorem dX7_back_22 : decode cX7_back 22 = .ok (.putfield 226, 3) := by decide +kernel
theorem dX7_back_25 : decode cX7_back 25 = .ok (.aload_n 0, 1) := by decide +kernel
theorem dX7_back_26 : decode cX7_back 26 = .ok (.invokevirtual 256, 3) := by decide +kernel
theorem dX7_back_29 : decode cX7_back 29 = .ok (.ireturn, 1) := by decide +kernel
theorem dX7_isUser_0 : decode cX7_isUser 0 = .ok (.iload_n 1, 1) := by decide +kernel
theorem dX7_isUser_1 : decode cX7_isUser 1 = .ok (.ifCond .lt 15, 3) := by decide +kernel
theorem dX7_isUser_4 : decode cX7_isUser 4 = .ok (.iload_n 1, 1) := by decide +kernel
theorem dX7_isUser_5 : decode cX7_isUser 5 = .ok (.aload_n 0, 1) := by decide +kernel
theorem dX7_isUser_6 : decode cX7_isUser 6 = .ok (.invokevirtual 232, 3) := by decide +kernel
theorem dX7_isUser_9 : decode cX7_isUser 9 = .ok (.if_icmp .ge 7, 3) := by decide +kernel
theorem dX7_isUser_12 : decode cX7_isUser 12 = .ok (.iconst 1, 1) := by decide +kernel
theorem dX7_isUser_13 : decode cX7_isUser 13 = .ok (.goto 4, 3) := by decide +kernel
theorem dX7_isUser_16 : decode cX7_isUser 16 = .ok (.iconst 0, 1) := by decide +kernel
theorem dX7_isUser_17 : decode cX7_isUser 17 = .ok (.ireturn, 1) := by decide +kernel
