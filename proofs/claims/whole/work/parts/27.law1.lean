theorem gc_RL_21 : qc_cV RL 21 RX6 yX6_feed := ⟨ww_364, ww_365, ww_366, ww_112⟩
theorem gc_RL_25 : qc_cV RL 25 RX7 yX7_feed := ⟨ww_1236, ww_1237, ww_1238, ww_118⟩
theorem gc_RL_31 : qc_cV RL 31 RX6 yX6_fault := ⟨ww_508, ww_509, ww_510, ww_112⟩
theorem gc_RL_34 : qc_cV RL 34 RX7 yX7_fault := ⟨ww_1380, ww_1381, ww_1382, ww_118⟩
theorem gc_RL_35 : qc_cV RL 35 RX6 yX6_named := ⟨ww_512, ww_513, ww_514, ww_112⟩
theorem gc_RL_38 : qc_cV RL 38 RX7 yX7_named := ⟨ww_1384, ww_1385, ww_1386, ww_118⟩
theorem gc_RL_39 : qc_cV RL 39 RX6 yX6_tune := ⟨ww_517, ww_518, ww_519, ww_112⟩
theorem gc_RL_42 : qc_cV RL 42 RX7 yX7_tune := ⟨ww_1412, ww_1413, ww_1414, ww_118⟩
theorem gc_RL_43 : qc_cV RL 43 RX6 yX6_block := ⟨ww_544, ww_545, ww_546, ww_112⟩
theorem gc_RL_46 : qc_cV RL 46 RX7 yX7_block := ⟨ww_1428, ww_1429, ww_1430, ww_118⟩
theorem gc_RL_47 : qc_cV RL 47 RX6 yX6_power := ⟨ww_552, ww_553, ww_554, ww_112⟩
theorem gc_RL_50 : qc_cV RL 50 RX7 yX7_power := ⟨ww_1432, ww_1433, ww_1434, ww_118⟩
theorem gc_RL_51 : qc_cV RL 51 RX6 yX6_slots := ⟨ww_556, ww_557, ww_558, ww_112⟩
theorem gc_RL_54 : qc_cV RL 54 RX7 yX7_slots := ⟨ww_1436, ww_1437, ww_1438, ww_118⟩
theorem gc_RL_55 : qc_cV RL 55 RX6 yX6_complete := ⟨ww_560, ww_561, ww_562, ww_112⟩
theorem gc_RL_59 : qc_cV RL 59 RX7 yX7_complete := ⟨ww_1440, ww_1441, ww_1442, ww_118⟩
theorem gc_RL_60 : qc_cV RL 60 RX6 yX6_mend := ⟨ww_679, ww_680, ww_681, ww_112⟩
theorem gc_RL_63 : qc_cV RL 63 RX7 yX7_mend := ⟨ww_1551, ww_1552, ww_1553, ww_118⟩
theorem gc_RL_73 : qc_cV RL 73 RX6 yX6_blocked := ⟨ww_717, ww_718, ww_719, ww_112⟩
theorem gc_RL_76 : qc_cV RL 76 RX7 yX7_blocked := ⟨ww_1594, ww_1595, ww_1596, ww_118⟩
theorem gc_RL_77 : qc_cV RL 77 RX6 yX6_products := ⟨ww_735, ww_736, ww_737, ww_112⟩
theorem gc_RL_80 : qc_cV RL 80 RX7 yX7_products := ⟨ww_1598, ww_1599, ww_1600, ww_118⟩
theorem gc_RL_81 : qc_cV RL 81 RX6 yX6_product := ⟨ww_753, ww_754, ww_755, ww_112⟩
theorem gc_RL_84 : qc_cV RL 84 RX7 yX7_product := ⟨ww_1614, ww_1615, ww_1616, ww_118⟩
theorem gc_RL_85 : qc_cV RL 85 RX6 yX6_hits := ⟨ww_761, ww_762, ww_763, ww_112⟩
theorem gc_RL_88 : qc_cV RL 88 RX7 yX7_hits_ := ⟨ww_1618, ww_1619, ww_1620, ww_118⟩
theorem gc_RL_89 : qc_cV RL 89 RX6 yX6_hitBy := ⟨ww_773, ww_774, ww_775, ww_112⟩
theorem gc_RL_92 : qc_cV RL 92 RX7 yX7_hitBy := ⟨ww_1622, ww_1623, ww_1624, ww_118⟩
theorem gc_RL_93 : qc_cV RL 93 RX6 yX6_crowds := ⟨ww_829, ww_830, ww_831, ww_112⟩
theorem gc_RL_96 : qc_cV RL 96 RX7 yX7_crowds := ⟨ww_1626, ww_1627, ww_1628, ww_118⟩
theorem gc_RL_97 : qc_cV RL 97 RX6 yX6_clean := ⟨ww_853, ww_854, ww_855, ww_112⟩
theorem gc_RL_100 : qc_cV RL 100 RX7 yX7_clean := ⟨ww_1630, ww_1631, ww_1632, ww_118⟩
theorem gc_RL_101 : qc_cV RL 101 RX6 yX6_fits := ⟨ww_857, ww_858, ww_859, ww_112⟩
theorem gc_RL_104 : qc_cV RL 104 RX7 yX7_fits := ⟨ww_1634, ww_1635, ww_1636, ww_118⟩
theorem gc_RL_105 : qc_cV RL 105 RX6 yX6_free := ⟨ww_865, ww_866, ww_867, ww_112⟩
theorem gc_RL_108 : qc_cV RL 108 RX7 yX7_free := ⟨ww_1642, ww_1643, ww_1644, ww_118⟩
theorem gc_RL_109 : qc_cV RL 109 RX6 yX6_freeAt := ⟨ww_869, ww_870, ww_871, ww_112⟩
theorem gc_RL_112 : qc_cV RL 112 RX7 yX7_freeAt := ⟨ww_1646, ww_1647, ww_1648, ww_118⟩
theorem gc_RL_113 : qc_cV RL 113 RX6 yX6_quietest := ⟨ww_885, ww_886, ww_887, ww_112⟩
theorem gc_RL_116 : qc_cV RL 116 RX7 yX7_quietest := ⟨ww_1650, ww_1651, ww_1652, ww_118⟩
theorem gc_RL_117 : qc_cV RL 117 RX6 yX6_planned := ⟨ww_921, ww_922, ww_923, ww_112⟩
theorem gc_RL_120 : qc_cV RL 120 RX7 yX7_planned := ⟨ww_1566, ww_1567, ww_1568, ww_118⟩
theorem gc_RL_121 : qc_cV RL 121 RX6 yX6_mended := ⟨ww_925, ww_926, ww_927, ww_112⟩
theorem gc_RL_124 : qc_cV RL 124 RX7 yX7_mended := ⟨ww_1562, ww_1563, ww_1564, ww_118⟩
theorem gc_RL_125 : qc_cV RL 125 RX6 yX6_leastBand := ⟨ww_929, ww_930, ww_931, ww_112⟩
theorem gc_RL_128 : qc_cV RL 128 RX7 yX7_leastBand := ⟨ww_1570, ww_1571, ww_1572, ww_118⟩
theorem gc_RL_129 : qc_cV RL 129 RX6 yX6_grown := ⟨ww_943, ww_944, ww_945, ww_112⟩
theorem gc_RL_133 : qc_cV RL 133 RX7 yX7_grown := ⟨ww_1574, ww_1575, ww_1576, ww_118⟩
theorem gc_RL_134 : qc_cV RL 134 RX6 yX6_worst := ⟨ww_805, ww_806, ww_807, ww_112⟩
theorem gc_RL_137 : qc_cV RL 137 RX7 yX7_worst := ⟨ww_1662, ww_1663, ww_1664, ww_118⟩
theorem gc_RL_138 : qc_cV RL 138 RX6 yX6_ifTuned := ⟨ww_877, ww_878, ww_879, ww_112⟩
theorem gc_RL_141 : qc_cV RL 141 RX7 yX7_ifTuned := ⟨ww_1658, ww_1659, ww_1660, ww_118⟩
theorem gc_RL_142 : qc_cV RL 142 RX6 yX6_bySort := ⟨ww_757, ww_758, ww_759, ww_112⟩
theorem gc_RL_145 : qc_cV RL 145 RX7 yX7_bySort := ⟨ww_1678, ww_1679, ww_1680, ww_118⟩
theorem gc_RL_146 : qc_cV RL 146 RX6 yX6_loudest := ⟨ww_781, ww_782, ww_783, ww_112⟩
theorem gc_RL_149 : qc_cV RL 149 RX7 yX7_loudest := ⟨ww_1682, ww_1683, ww_1684, ww_118⟩
theorem gc_RL_150 : qc_cV RL 150 RX6 yX6_turned := ⟨ww_909, ww_910, ww_911, ww_112⟩
theorem gc_RL_153 : qc_cV RL 153 RX7 yX7_turned := ⟨ww_1686, ww_1687, ww_1688, ww_118⟩
theorem gc_RL_154 : qc_cV RL 154 RX6 yX6_left := ⟨ww_917, ww_918, ww_919, ww_112⟩
theorem gc_RL_157 : qc_cV RL 157 RX7 yX7_left := ⟨ww_1694, ww_1695, ww_1696, ww_118⟩
theorem gc_RL_158 : qc_cV RL 158 RX6 yX6_bestSwap := ⟨ww_889, ww_890, ww_891, ww_112⟩
theorem gc_RL_161 : qc_cV RL 161 RX7 yX7_bestSwap := ⟨ww_1698, ww_1699, ww_1700, ww_118⟩
theorem gc_RL_162 : qc_cV RL 162 RX6 yX6_when := ⟨ww_789, ww_790, ww_791, ww_112⟩
theorem gc_RL_165 : qc_cV RL 165 RX7 yX7_when := ⟨ww_1706, ww_1707, ww_1708, ww_118⟩
theorem gc_RL_166 : qc_cV RL 166 RX6 yX6_clearance := ⟨ww_797, ww_798, ww_799, ww_112⟩
theorem gc_RL_169 : qc_cV RL 169 RX7 yX7_clearance := ⟨ww_1714, ww_1715, ww_1716, ww_118⟩
theorem gc_RL_170 : qc_cV RL 170 RX6 yX6_nearest := ⟨ww_837, ww_838, ww_839, ww_112⟩
theorem gc_RL_173 : qc_cV RL 173 RX7 yX7_nearest := ⟨ww_1718, ww_1719, ww_1720, ww_118⟩
theorem gc_RL_174 : qc_cV RL 174 RX6 yX6_mostSpace := ⟨ww_849, ww_850, ww_851, ww_112⟩
theorem gc_RL_177 : qc_cV RL 177 RX7 yX7_mostSpace := ⟨ww_1722, ww_1723, ww_1724, ww_118⟩
theorem gc_RL_178 : qc_cV RL 178 RX6 yX6_spare := ⟨ww_873, ww_874, ww_875, ww_112⟩
theorem gc_RL_181 : qc_cV RL 181 RX7 yX7_spare := ⟨ww_1726, ww_1727, ww_1728, ww_118⟩
theorem gc_RL_182 : qc_cV RL 182 RX6 yX6_rank := ⟨ww_821, ww_822, ww_823, ww_112⟩
theorem gc_RL_185 : qc_cV RL 185 RX7 yX7_rank := ⟨ww_1674, ww_1675, ww_1676, ww_118⟩
theorem gc_RL_186 : qc_cV RL 186 RX6 yX6_linked := ⟨ww_721, ww_722, ww_723, ww_112⟩
theorem gc_RL_189 : qc_cV RL 189 RX7 yX7_linked := ⟨ww_1710, ww_1711, ww_1712, ww_118⟩
theorem gc_RL_190 : qc_cV RL 190 RX6 yX6_mostPower := ⟨ww_897, ww_898, ww_899, ww_112⟩
theorem gc_RL_193 : qc_cV RL 193 RX7 yX7_mostPower := ⟨ww_1730, ww_1731, ww_1732, ww_118⟩
theorem gc_RL_194 : qc_cV RL 194 RX6 yX6_mostGuard := ⟨ww_905, ww_906, ww_907, ww_112⟩
theorem gc_RL_197 : qc_cV RL 197 RX7 yX7_mostGuard := ⟨ww_1738, ww_1739, ww_1740, ww_118⟩
theorem gc_RL_198 : qc_cV RL 198 RX6 yX6_chance := ⟨ww_955, ww_956, ww_957, ww_112⟩
theorem gc_RL_202 : qc_cV RL 202 RX7 yX7_chance := ⟨ww_1742, ww_1743, ww_1744, ww_118⟩
theorem gc_RL_203 : qc_cV RL 203 RX6 yX6_undo := ⟨ww_695, ww_696, ww_697, ww_112⟩
theorem gc_RL_206 : qc_cV RL 206 RX7 yX7_undo := ⟨ww_1388, ww_1389, ww_1390, ww_118⟩
theorem gc_RL_207 : qc_cV RL 207 RX6 yX6_keep := ⟨ww_707, ww_708, ww_709, ww_112⟩
theorem gc_RL_210 : qc_cV RL 210 RX7 yX7_keep := ⟨ww_1396, ww_1397, ww_1398, ww_118⟩
theorem gc_RL_211 : qc_cV RL 211 RX6 yX6_back := ⟨ww_712, ww_713, ww_714, ww_112⟩
theorem gc_RL_214 : qc_cV RL 214 RX7 yX7_back := ⟨ww_1408, ww_1409, ww_1410, ww_118⟩
theorem gc_RL_215 : qc_cV RL 215 RX6 yX6_count := ⟨ww_725, ww_726, ww_727, ww_112⟩
theorem gc_RL_218 : qc_cV RL 218 RX7 yX7_count := ⟨ww_1752, ww_1753, ww_1754, ww_118⟩
theorem qm_X6_back : qc_mw yX6_back cX6_back 1 (Option.some Jvm.ClassFile.FieldType.int) 0 := ⟨ww_715, by decide, by decide, by decide +kernel⟩
theorem qm_X6_bestSwap : qc_mw yX6_bestSwap cX6_bestSwap 6 (Option.some Jvm.ClassFile.FieldType.int) 0 := ⟨ww_892, by decide, by decide, by decide +kernel⟩
theorem qm_X6_block : qc_mw yX6_block cX6_block 2 (Option.some Jvm.ClassFile.FieldType.int) 1 := ⟨ww_547, by decide, by decide, by decide +kernel⟩
theorem qm_X6_blocked : qc_mw yX6_blocked cX6_blocked 2 (Option.some Jvm.ClassFile.FieldType.int) 1 := ⟨ww_720, by decide, by decide, by decide +kernel⟩
theorem qm_X6_bySort : qc_mw yX6_bySort cX6_bySort 3 (Option.some Jvm.ClassFile.FieldType.int) 2 := ⟨ww_760, by decide, by decide, by decide +kernel⟩
theorem qm_X6_chance : qc_mw yX6_chance cX6_chance 7 (Option.some Jvm.ClassFile.FieldType.int) 3 := ⟨ww_958, by decide, by decide, by decide +kernel⟩
theorem qm_X6_clean : qc_mw yX6_clean cX6_clean 1 (Option.some Jvm.ClassFile.FieldType.int) 0 := ⟨ww_856, by decide, by decide, by decide +kernel⟩
theorem qm_X6_clearance : qc_mw yX6_clearance cX6_clearance 2 (Option.some Jvm.ClassFile.FieldType.int) 1 := ⟨ww_800, by decide, by decide, by decide +kernel⟩
theorem qm_X6_complete : qc_mw yX6_complete cX6_complete 2 (Option.some Jvm.ClassFile.FieldType.int) 0 := ⟨ww_563, by decide, by decide, by decide +kernel⟩
theorem qm_X6_count : qc_mw yX6_count cX6_count 2 (Option.some Jvm.ClassFile.FieldType.int) 1 := ⟨ww_728, by decide, by decide, by decide +kernel⟩
theorem qm_X6_crowds : qc_mw yX6_crowds cX6_crowds 2 (Option.some Jvm.ClassFile.FieldType.int) 1 := ⟨ww_832, by decide, by decide, by decide +kernel⟩
theorem qm_X6_fault : qc_mw yX6_fault cX6_fault 2 (Option.some Jvm.ClassFile.FieldType.int) 1 := ⟨ww_511, by decide, by decide, by decide +kernel⟩
theorem qm_X6_feed : qc_mw yX6_feed cX6_feed 6 (Option.some Jvm.ClassFile.FieldType.int) 5 := ⟨ww_367, by decide, by decide, by decide +kernel⟩
theorem qm_X6_fits : qc_mw yX6_fits cX6_fits 3 (Option.some Jvm.ClassFile.FieldType.int) 2 := ⟨ww_860, by decide, by decide, by decide +kernel⟩
theorem qm_X6_free : qc_mw yX6_free cX6_free 4 (Option.some Jvm.ClassFile.FieldType.int) 1 := ⟨ww_868, by decide, by decide, by decide +kernel⟩
theorem qm_X6_freeAt : qc_mw yX6_freeAt cX6_freeAt 5 (Option.some Jvm.ClassFile.FieldType.int) 2 := ⟨ww_872, by decide, by decide, by decide +kernel⟩
theorem qm_X6_grown : qc_mw yX6_grown cX6_grown 7 (Option.some Jvm.ClassFile.FieldType.int) 4 := ⟨ww_946, by decide, by decide, by decide +kernel⟩
theorem qm_X6_hitBy : qc_mw yX6_hitBy cX6_hitBy 3 (Option.some Jvm.ClassFile.FieldType.int) 2 := ⟨ww_776, by decide, by decide, by decide +kernel⟩
theorem qm_X6_hits : qc_mw yX6_hits cX6_hits 2 (Option.some Jvm.ClassFile.FieldType.int) 1 := ⟨ww_764, by decide, by decide, by decide +kernel⟩
theorem qm_X6_ifTuned : qc_mw yX6_ifTuned cX6_ifTuned 3 (Option.some Jvm.ClassFile.FieldType.int) 2 := ⟨ww_880, by decide, by decide, by decide +kernel⟩
theorem qm_X6_keep : qc_mw yX6_keep cX6_keep 1 (Option.some Jvm.ClassFile.FieldType.int) 0 := ⟨ww_710, by decide, by decide, by decide +kernel⟩
theorem qm_X6_leastBand : qc_mw yX6_leastBand cX6_leastBand 2 (Option.some Jvm.ClassFile.FieldType.int) 0 := ⟨ww_932, by decide, by decide, by decide +kernel⟩
theorem qm_X6_left : qc_mw yX6_left cX6_left 1 (Option.some Jvm.ClassFile.FieldType.int) 0 := ⟨ww_920, by decide, by decide, by decide +kernel⟩
theorem qm_X6_linked : qc_mw yX6_linked cX6_linked 4 (Option.some Jvm.ClassFile.FieldType.int) 2 := ⟨ww_724, by decide, by decide, by decide +kernel⟩
theorem qm_X6_loudest : qc_mw yX6_loudest cX6_loudest 1 (Option.some Jvm.ClassFile.FieldType.int) 0 := ⟨ww_784, by decide, by decide, by decide +kernel⟩
theorem qm_X6_mend : qc_mw yX6_mend cX6_mend 2 (Option.some Jvm.ClassFile.FieldType.int) 0 := ⟨ww_682, by decide, by decide, by decide +kernel⟩
theorem qm_X6_mended : qc_mw yX6_mended cX6_mended 1 (Option.some Jvm.ClassFile.FieldType.int) 0 := ⟨ww_928, by decide, by decide, by decide +kernel⟩
theorem qm_X6_mostGuard : qc_mw yX6_mostGuard cX6_mostGuard 2 (Option.some Jvm.ClassFile.FieldType.int) 0 := ⟨ww_908, by decide, by decide, by decide +kernel⟩
theorem qm_X6_mostPower : qc_mw yX6_mostPower cX6_mostPower 3 (Option.some Jvm.ClassFile.FieldType.int) 1 := ⟨ww_900, by decide, by decide, by decide +kernel⟩
theorem qm_X6_mostSpace : qc_mw yX6_mostSpace cX6_mostSpace 2 (Option.some Jvm.ClassFile.FieldType.int) 0 := ⟨ww_852, by decide, by decide, by decide +kernel⟩
theorem qm_X6_named : qc_mw yX6_named cX6_named 2 (Option.some Jvm.ClassFile.FieldType.int) 1 := ⟨ww_515, by decide, by decide, by decide +kernel⟩
theorem qm_X6_nearest : qc_mw yX6_nearest cX6_nearest 2 (Option.some Jvm.ClassFile.FieldType.int) 1 := ⟨ww_840, by decide, by decide, by decide +kernel⟩
theorem qm_X6_planned : qc_mw yX6_planned cX6_planned 3 (Option.some Jvm.ClassFile.FieldType.int) 1 := ⟨ww_924, by decide, by decide, by decide +kernel⟩
theorem qm_X6_power : qc_mw yX6_power cX6_power 4 (Option.some Jvm.ClassFile.FieldType.int) 2 := ⟨ww_555, by decide, by decide, by decide +kernel⟩
theorem qm_X6_product : qc_mw yX6_product cX6_product 3 (Option.some Jvm.ClassFile.FieldType.int) 2 := ⟨ww_756, by decide, by decide, by decide +kernel⟩
theorem qm_X6_products : qc_mw yX6_products cX6_products 2 (Option.some Jvm.ClassFile.FieldType.int) 1 := ⟨ww_738, by decide, by decide, by decide +kernel⟩
theorem qm_X6_quietest : qc_mw yX6_quietest cX6_quietest 6 (Option.some Jvm.ClassFile.FieldType.int) 1 := ⟨ww_888, by decide, by decide, by decide +kernel⟩
theorem qm_X6_rank : qc_mw yX6_rank cX6_rank 3 (Option.some Jvm.ClassFile.FieldType.int) 1 := ⟨ww_824, by decide, by decide, by decide +kernel⟩
theorem qm_X6_slots : qc_mw yX6_slots cX6_slots 4 (Option.some Jvm.ClassFile.FieldType.int) 2 := ⟨ww_559, by decide, by decide, by decide +kernel⟩
theorem qm_X6_spare : qc_mw yX6_spare cX6_spare 4 (Option.some Jvm.ClassFile.FieldType.int) 1 := ⟨ww_876, by decide, by decide, by decide +kernel⟩
theorem qm_X6_tune : qc_mw yX6_tune cX6_tune 4 (Option.some Jvm.ClassFile.FieldType.int) 2 := ⟨ww_520, by decide, by decide, by decide +kernel⟩
theorem qm_X6_turned : qc_mw yX6_turned cX6_turned 3 (Option.some Jvm.ClassFile.FieldType.int) 1 := ⟨ww_912, by decide, by decide, by decide +kernel⟩
theorem qm_X6_undo : qc_mw yX6_undo cX6_undo 1 (Option.some Jvm.ClassFile.FieldType.int) 0 := ⟨ww_698, by decide, by decide, by decide +kernel⟩
theorem qm_X6_when : qc_mw yX6_when cX6_when 2 (Option.some Jvm.ClassFile.FieldType.int) 1 := ⟨ww_792, by decide, by decide, by decide +kernel⟩
theorem qm_X6_worst : qc_mw yX6_worst cX6_worst 1 (Option.some Jvm.ClassFile.FieldType.int) 0 := ⟨ww_808, by decide, by decide, by decide +kernel⟩
theorem qm_X7_back : qc_mw yX7_back cX7_back 1 (Option.some Jvm.ClassFile.FieldType.int) 0 := ⟨ww_1411, by decide, by decide, by decide +kernel⟩
theorem qm_X7_bestSwap : qc_mw yX7_bestSwap cX7_bestSwap 6 (Option.some Jvm.ClassFile.FieldType.int) 0 := ⟨ww_1701, by decide, by decide, by decide +kernel⟩
theorem qm_X7_block : qc_mw yX7_block cX7_block 2 (Option.some Jvm.ClassFile.FieldType.int) 1 := ⟨ww_1431, by decide, by decide, by decide +kernel⟩
theorem qm_X7_blocked : qc_mw yX7_blocked cX7_blocked 2 (Option.some Jvm.ClassFile.FieldType.int) 1 := ⟨ww_1597, by decide, by decide, by decide +kernel⟩
theorem qm_X7_bySort : qc_mw yX7_bySort cX7_bySort 5 (Option.some Jvm.ClassFile.FieldType.int) 2 := ⟨ww_1681, by decide, by decide, by decide +kernel⟩
theorem qm_X7_chance : qc_mw yX7_chance cX7_chance 8 (Option.some Jvm.ClassFile.FieldType.int) 3 := ⟨ww_1745, by decide, by decide, by decide +kernel⟩
theorem qm_X7_clean : qc_mw yX7_clean cX7_clean 1 (Option.some Jvm.ClassFile.FieldType.int) 0 := ⟨ww_1633, by decide, by decide, by decide +kernel⟩
theorem qm_X7_clearance : qc_mw yX7_clearance cX7_clearance 5 (Option.some Jvm.ClassFile.FieldType.int) 1 := ⟨ww_1717, by decide, by decide, by decide +kernel⟩
theorem qm_X7_complete : qc_mw yX7_complete cX7_complete 2 (Option.some Jvm.ClassFile.FieldType.int) 0 := ⟨ww_1443, by decide, by decide, by decide +kernel⟩
theorem qm_X7_count : qc_mw yX7_count cX7_count 2 (Option.some Jvm.ClassFile.FieldType.int) 1 := ⟨ww_1755, by decide, by decide, by decide +kernel⟩
theorem qm_X7_crowds : qc_mw yX7_crowds cX7_crowds 2 (Option.some Jvm.ClassFile.FieldType.int) 1 := ⟨ww_1629, by decide, by decide, by decide +kernel⟩
theorem qm_X7_fault : qc_mw yX7_fault cX7_fault 2 (Option.some Jvm.ClassFile.FieldType.int) 1 := ⟨ww_1383, by decide, by decide, by decide +kernel⟩
theorem qm_X7_feed : qc_mw yX7_feed cX7_feed 8 (Option.some Jvm.ClassFile.FieldType.int) 5 := ⟨ww_1239, by decide, by decide, by decide +kernel⟩
theorem qm_X7_fits : qc_mw yX7_fits cX7_fits 3 (Option.some Jvm.ClassFile.FieldType.int) 2 := ⟨ww_1637, by decide, by decide, by decide +kernel⟩
theorem qm_X7_free : qc_mw yX7_free cX7_free 4 (Option.some Jvm.ClassFile.FieldType.int) 1 := ⟨ww_1645, by decide, by decide, by decide +kernel⟩
theorem qm_X7_freeAt : qc_mw yX7_freeAt cX7_freeAt 5 (Option.some Jvm.ClassFile.FieldType.int) 2 := ⟨ww_1649, by decide, by decide, by decide +kernel⟩
theorem qm_X7_grown : qc_mw yX7_grown cX7_grown 6 (Option.some Jvm.ClassFile.FieldType.int) 4 := ⟨ww_1577, by decide, by decide, by decide +kernel⟩
theorem qm_X7_hitBy : qc_mw yX7_hitBy cX7_hitBy 5 (Option.some Jvm.ClassFile.FieldType.int) 2 := ⟨ww_1625, by decide, by decide, by decide +kernel⟩
theorem qm_X7_hits_ : qc_mw yX7_hits_ cX7_hits_ 4 (Option.some Jvm.ClassFile.FieldType.int) 1 := ⟨ww_1621, by decide, by decide, by decide +kernel⟩
theorem qm_X7_ifTuned : qc_mw yX7_ifTuned cX7_ifTuned 3 (Option.some Jvm.ClassFile.FieldType.int) 2 := ⟨ww_1661, by decide, by decide, by decide +kernel⟩
theorem qm_X7_keep : qc_mw yX7_keep cX7_keep 1 (Option.some Jvm.ClassFile.FieldType.int) 0 := ⟨ww_1399, by decide, by decide, by decide +kernel⟩
theorem qm_X7_leastBand : qc_mw yX7_leastBand cX7_leastBand 3 (Option.some Jvm.ClassFile.FieldType.int) 0 := ⟨ww_1573, by decide, by decide, by decide +kernel⟩
theorem qm_X7_left : qc_mw yX7_left cX7_left 2 (Option.some Jvm.ClassFile.FieldType.int) 0 := ⟨ww_1697, by decide, by decide, by decide +kernel⟩
theorem qm_X7_linked : qc_mw yX7_linked cX7_linked 3 (Option.some Jvm.ClassFile.FieldType.int) 2 := ⟨ww_1713, by decide, by decide, by decide +kernel⟩
theorem qm_X7_loudest : qc_mw yX7_loudest cX7_loudest 3 (Option.some Jvm.ClassFile.FieldType.int) 0 := ⟨ww_1685, by decide, by decide, by decide +kernel⟩
theorem qm_X7_mend : qc_mw yX7_mend cX7_mend 2 (Option.some Jvm.ClassFile.FieldType.int) 0 := ⟨ww_1554, by decide, by decide, by decide +kernel⟩
theorem qm_X7_mended : qc_mw yX7_mended cX7_mended 2 (Option.some Jvm.ClassFile.FieldType.int) 0 := ⟨ww_1565, by decide, by decide, by decide +kernel⟩
theorem qm_X7_mostGuard : qc_mw yX7_mostGuard cX7_mostGuard 2 (Option.some Jvm.ClassFile.FieldType.int) 0 := ⟨ww_1741, by decide, by decide, by decide +kernel⟩
theorem qm_X7_mostPower : qc_mw yX7_mostPower cX7_mostPower 4 (Option.some Jvm.ClassFile.FieldType.int) 1 := ⟨ww_1733, by decide, by decide, by decide +kernel⟩
theorem qm_X7_mostSpace : qc_mw yX7_mostSpace cX7_mostSpace 2 (Option.some Jvm.ClassFile.FieldType.int) 0 := ⟨ww_1725, by decide, by decide, by decide +kernel⟩
theorem qm_X7_named : qc_mw yX7_named cX7_named 2 (Option.some Jvm.ClassFile.FieldType.int) 1 := ⟨ww_1387, by decide, by decide, by decide +kernel⟩
theorem qm_X7_nearest : qc_mw yX7_nearest cX7_nearest 4 (Option.some Jvm.ClassFile.FieldType.int) 1 := ⟨ww_1721, by decide, by decide, by decide +kernel⟩
theorem qm_X7_planned : qc_mw yX7_planned cX7_planned 4 (Option.some Jvm.ClassFile.FieldType.int) 1 := ⟨ww_1569, by decide, by decide, by decide +kernel⟩
theorem qm_X7_power : qc_mw yX7_power cX7_power 4 (Option.some Jvm.ClassFile.FieldType.int) 2 := ⟨ww_1435, by decide, by decide, by decide +kernel⟩
theorem qm_X7_product : qc_mw yX7_product cX7_product 3 (Option.some Jvm.ClassFile.FieldType.int) 2 := ⟨ww_1617, by decide, by decide, by decide +kernel⟩
theorem qm_X7_products : qc_mw yX7_products cX7_products 2 (Option.some Jvm.ClassFile.FieldType.int) 1 := ⟨ww_1601, by decide, by decide, by decide +kernel⟩
theorem qm_X7_quietest : qc_mw yX7_quietest cX7_quietest 6 (Option.some Jvm.ClassFile.FieldType.int) 1 := ⟨ww_1653, by decide, by decide, by decide +kernel⟩
theorem qm_X7_rank : qc_mw yX7_rank cX7_rank 5 (Option.some Jvm.ClassFile.FieldType.int) 1 := ⟨ww_1677, by decide, by decide, by decide +kernel⟩
theorem qm_X7_slots : qc_mw yX7_slots cX7_slots 4 (Option.some Jvm.ClassFile.FieldType.int) 2 := ⟨ww_1439, by decide, by decide, by decide +kernel⟩
theorem qm_X7_spare : qc_mw yX7_spare cX7_spare 4 (Option.some Jvm.ClassFile.FieldType.int) 1 := ⟨ww_1729, by decide, by decide, by decide +kernel⟩
theorem qm_X7_tune : qc_mw yX7_tune cX7_tune 4 (Option.some Jvm.ClassFile.FieldType.int) 2 := ⟨ww_1415, by decide, by decide, by decide +kernel⟩
theorem qm_X7_turned : qc_mw yX7_turned cX7_turned 4 (Option.some Jvm.ClassFile.FieldType.int) 1 := ⟨ww_1689, by decide, by decide, by decide +kernel⟩
theorem qm_X7_undo : qc_mw yX7_undo cX7_undo 1 (Option.some Jvm.ClassFile.FieldType.int) 0 := ⟨ww_1391, by decide, by decide, by decide +kernel⟩
theorem qm_X7_when : qc_mw yX7_when cX7_when 4 (Option.some Jvm.ClassFile.FieldType.int) 1 := ⟨ww_1709, by decide, by decide, by decide +kernel⟩
theorem qm_X7_worst : qc_mw yX7_worst cX7_worst 1 (Option.some Jvm.ClassFile.FieldType.int) 0 := ⟨ww_1665, by decide, by decide, by decide +kernel⟩
/-! THE LAW'S ROWS -/
def lw_C (p : Program) (s : State) (m : MethodId) (meth : Method) (c : Code) (b L : Nat) (xs : Nat → Int32) (D : va_G) (ca : Nat → ClassId) (ad0 : Nat → Nat) : Prop := lw_At p s m meth c b L xs ∧ qc_Gd D ca (fun q => s.heap.size ≤ q) ad0 s ∧ qx_G (fun q => s.heap.size ≤ q) s
/-- from pc on, in any state of the two that Rel holds of, the law comes to its end -/
def lw_Go (p : Program) (l : Launch) (e : Env) (s : State) (m : MethodId) (below : List Frame) (meth : Method) (c : Code) (b : Nat) (D : va_G) (ca : Nat → ClassId) (ad0 : Nat → Nat) (qo : Nat) (cL : ClassId) (Rel : (Nat → Nat → Int32) → (Nat → Nat → Int64) → (Nat → Nat) → (Nat → Nat → Int32) → Prop) (x4 : Int32) (cells slots pc : Nat) : Prop :=
  ∀ (I : Nat → Nat → Int32) (J : Nat → Nat → Int64) (w : Nat → Nat) (M : Nat → Nat → Int32) (adX adM : Nat → Nat) (o : Int64) (H : Heap) (locs : List Loc) (la : Array Slot), Rel I J w M → lw_w D ca s.heap.size ad0 adX adM (I, J, (rX w, kX, nX, 121)) (M, (fun _ _ => 0), shM) qo cL o H → va_S (fun q => s.heap.size ≤ q) s.heap H locs → lv_has la 7 [(0, .ref b), (1, .ref (adX 0)), (2, .ref (adM 0)), (3, .ref qo), (4, .int x4)] → W p l e room_1 s m #[Value.ref b] below meth c H locs cells slots (lw_Z below #[Value.ref b] s) (F0 m pc la [])
section LWR
variable {p : Program} {l : Launch} {e : Env} {s : State} {m : MethodId} {below : List Frame} {meth : Method} {c : Code} {b L : Nat} {xs : Nat → Int32} {D : va_G} {ca : Nat → ClassId} {ad0 adX adM : Nat → Nat} {qo : Nat} {cL : ClassId} {o : Int64} {H : Heap} {locs : List Loc} {cells slots : Nat} {Q : State → Prop} {pc : Nat} {la : Array Slot} {rest st0 : List Value} {y : MethodName} {code1 : ByteArray} {maxL : Nat} {ret : Option FieldType} {rF1 rL1 n idx kk N : Nat} {C : String} {T : u_T} {tyf : Nat → FieldType} {As : List Value} {v : Int32} {h h' hM : qc_Pl}
theorem lw_cX (C0 : lw_C p s m meth c b L xs D ca ad0) (hM9 : ∀ l, qc_M l y code1 maxL ret rF1 rL1 0 0 (.ref 0 :: As) h (some (.int v)) h') (hcw : qc_cV RL idx C y) (hmw : qc_mw y code1 maxL ret n) (hyC : y.cls = C) (hA : As.length = n) (hcl : qc_cl kk C T N tyf) (hk : qc_K h 0 = kk) (ht : 0 < qc_n h) (hAs : ∀ f, As.map (qc_rv f) = As) (hrm : rF1 + 1 ≤ 16 ∧ 8 + (maxL + 11) + rL1 ≤ 600) (hnn : qc_n h' = qc_n h) (hRO : qc_n h ≤ qc_RO) (hce : cells ≤ 601024 ∧ slots ≤ 7293034) (hst : st0 = As.reverse ++ .ref (adX 0) :: rest) (hsu : (rest.map fun v => v.category).sum ≤ 8)
    (hw : lw_w D ca s.heap.size ad0 adX adM h hM qo cL o H) (hS : va_S (fun q => s.heap.size ≤ q) s.heap H locs) (hla : la.size = 7) (hd : decode cL_law pc = .ok (.invokevirtual idx, 3))
    (k : ∀ (H' : Heap) (locs' : List Loc), lw_w D ca s.heap.size ad0 adX adM h' hM qo cL o H' → va_S (fun q => s.heap.size ≤ q) s.heap H' locs' → W p l e room_1 s m #[Value.ref b] below meth c H' locs' cells slots Q (F0 m (pc + 3) la (.int v :: rest))) : W p l e room_1 s m #[Value.ref b] below meth c H locs cells slots Q (F0 m pc la st0) := by
  obtain ⟨⟨hx, hb, hr, hml, hown, hts, hX, hbl, hlocks, hgv⟩, hG, -⟩ := C0
  subst hst
  refine lw_call (R := room_1) (own := RL) hx hb hml hown (fun w hw => hts w (List.mem_filter.mp hw).1) hG hM9 hcw hmw hyC hA hcl hk ht hAs hrm hce hsu hw.1 hw.2.2.2.2.2.2.1 hS hla hd (fun ad' H' locs' h1 h2 h3 h4 h5 h6 => ?_)
  have had : ad' = adX := funext fun u => h2 u (fun z => by omega)
  subst had
  exact k H' locs' (hw.step ⟨Nat.le_of_eq hnn.symm, by rw [hnn]; exact hRO⟩ h1 h2 h3 h5) h6
theorem lw_cM (C0 : lw_C p s m meth c b L xs D ca ad0) (hM9 : ∀ l, qc_M l y code1 maxL ret rF1 rL1 0 0 (.ref 0 :: As) h (some (.int v)) h') (hcw : qc_cV RL idx C y) (hmw : qc_mw y code1 maxL ret n) (hyC : y.cls = C) (hA : As.length = n) (hcl : qc_cl kk C T N tyf) (hk : qc_K h 0 = kk) (ht : 0 < qc_n h) (hAs : ∀ f, As.map (qc_rv f) = As) (hrm : rF1 + 1 ≤ 16 ∧ 8 + (maxL + 11) + rL1 ≤ 600) (hnn : qc_n h' = qc_n h) (hRO : qc_n h ≤ qc_RO) (hce : cells ≤ 601024 ∧ slots ≤ 7293034) (hst : st0 = As.reverse ++ .ref (adM 0) :: rest) (hsu : (rest.map fun v => v.category).sum ≤ 8)
    (hw : lw_w D ca s.heap.size ad0 adX adM hM h qo cL o H) (hS : va_S (fun q => s.heap.size ≤ q) s.heap H locs) (hla : la.size = 7) (hd : decode cL_law pc = .ok (.invokevirtual idx, 3))
    (k : ∀ (H' : Heap) (locs' : List Loc), lw_w D ca s.heap.size ad0 adX adM hM h' qo cL o H' → va_S (fun q => s.heap.size ≤ q) s.heap H' locs' → W p l e room_1 s m #[Value.ref b] below meth c H' locs' cells slots Q (F0 m (pc + 3) la (.int v :: rest))) : W p l e room_1 s m #[Value.ref b] below meth c H locs cells slots Q (F0 m pc la st0) :=
  lw_cX (hM := hM) C0 hM9 hcw hmw hyC hA hcl hk ht hAs hrm hnn hRO hce hst hsu hw.swap hS hla hd (fun H' locs' h1 h2 => k H' locs' h1.swap h2)
end LWR
def St_0 (Rel : (Nat → Nat → Int32) → (Nat → Nat → Int64) → (Nat → Nat) → (Nat → Nat → Int32) → Prop) : Prop := ∀ I J w M (a b c d e : Int32), Rel I J w M → ∃ q r, P_X6_feed I a b c d e = some q ∧ P_X7_feed M a b c d e = some r ∧ q.1 = r.1 ∧ Rel q.2 J w r.2
def St_2 (Rel : (Nat → Nat → Int32) → (Nat → Nat → Int64) → (Nat → Nat) → (Nat → Nat → Int32) → Prop) : Prop := ∀ I J w M (a : Int32), Rel I J w M → ∃ q r, P_X6_fault I a = some q ∧ P_X7_fault M a = some r ∧ q = r.1 ∧ Rel I J w r.2
def St_3 (Rel : (Nat → Nat → Int32) → (Nat → Nat → Int64) → (Nat → Nat) → (Nat → Nat → Int32) → Prop) : Prop := ∀ I J w M (a : Int32), Rel I J w M → ∃ q r, P_X6_named I a = some q ∧ P_X7_named M a = some r ∧ q = r.1 ∧ Rel I J w r.2
def St_4 (Rel : (Nat → Nat → Int32) → (Nat → Nat → Int64) → (Nat → Nat) → (Nat → Nat → Int32) → Prop) : Prop := ∀ I J w M (a b : Int32), Rel I J w M → ∃ q r, P_X6_tune I J w a b = some q ∧ P_X7_tune M a b = some r ∧ q.1 = r.1 ∧ Rel q.2.1 q.2.2.1 q.2.2.2 r.2
def St_5 (Rel : (Nat → Nat → Int32) → (Nat → Nat → Int64) → (Nat → Nat) → (Nat → Nat → Int32) → Prop) : Prop := ∀ I J w M (a : Int32), Rel I J w M → ∃ q r, P_X6_block I J w a = some q ∧ P_X7_block M a = some r ∧ q.1 = r.1 ∧ Rel q.2.1 q.2.2.1 q.2.2.2 r.2
def St_6 (Rel : (Nat → Nat → Int32) → (Nat → Nat → Int64) → (Nat → Nat) → (Nat → Nat → Int32) → Prop) : Prop := ∀ I J w M (a b : Int32), Rel I J w M → ∃ q r, P_X6_power I J w a b = some q ∧ P_X7_power M a b = some r ∧ q.1 = r.1 ∧ Rel q.2.1 q.2.2.1 q.2.2.2 r.2
def St_7 (Rel : (Nat → Nat → Int32) → (Nat → Nat → Int64) → (Nat → Nat) → (Nat → Nat → Int32) → Prop) : Prop := ∀ I J w M (a b : Int32), Rel I J w M → ∃ q r, P_X6_slots I J w a b = some q ∧ P_X7_slots M a b = some r ∧ q.1 = r.1 ∧ Rel q.2.1 q.2.2.1 q.2.2.2 r.2
def St_8 (Rel : (Nat → Nat → Int32) → (Nat → Nat → Int64) → (Nat → Nat) → (Nat → Nat → Int32) → Prop) : Prop := ∀ I J w M, Rel I J w M → ∃ q r, P_X6_complete I J w = some q ∧ P_X7_complete M = some r ∧ q.1 = r.1 ∧ Rel q.2.1 q.2.2.1 q.2.2.2 r.2
def St_9 (Rel : (Nat → Nat → Int32) → (Nat → Nat → Int64) → (Nat → Nat) → (Nat → Nat → Int32) → Prop) : Prop := ∀ I J w M, Rel I J w M → ∃ q r, P_X6_mend I J w = some q ∧ P_X7_mend M = some r ∧ q.1 = r.1 ∧ Rel q.2.1 q.2.2.1 q.2.2.2 r.2
def St_11 (Rel : (Nat → Nat → Int32) → (Nat → Nat → Int64) → (Nat → Nat) → (Nat → Nat → Int32) → Prop) : Prop := ∀ I J w M (a : Int32), Rel I J w M → ∃ q r, P_X6_blocked I J a = some q ∧ P_X7_blocked M a = some r ∧ q = r.1 ∧ Rel I J w r.2
def St_12 (Rel : (Nat → Nat → Int32) → (Nat → Nat → Int64) → (Nat → Nat) → (Nat → Nat → Int32) → Prop) : Prop := ∀ I J w M (a : Int32), Rel I J w M → ∃ q r, P_X6_products I J a = some q ∧ P_X7_products M a = some r ∧ q.1 = r.1 ∧ Rel q.2.1 q.2.2 w r.2
def St_13 (Rel : (Nat → Nat → Int32) → (Nat → Nat → Int64) → (Nat → Nat) → (Nat → Nat → Int32) → Prop) : Prop := ∀ I J w M (a b : Int32), Rel I J w M → ∃ q r, P_X6_product I J a b = some q ∧ P_X7_product M a b = some r ∧ q.1 = r.1 ∧ Rel q.2.1 q.2.2 w r.2
def St_14 (Rel : (Nat → Nat → Int32) → (Nat → Nat → Int64) → (Nat → Nat) → (Nat → Nat → Int32) → Prop) : Prop := ∀ I J w M (a : Int32), Rel I J w M → ∃ q r, P_X6_hits I J a = some q ∧ P_X7_hits_ M a = some r ∧ q.1 = r.1 ∧ Rel q.2.1 q.2.2 w r.2
def St_15 (Rel : (Nat → Nat → Int32) → (Nat → Nat → Int64) → (Nat → Nat) → (Nat → Nat → Int32) → Prop) : Prop := ∀ I J w M (a b : Int32), Rel I J w M → ∃ q r, P_X6_hitBy I J a b = some q ∧ P_X7_hitBy M a b = some r ∧ q.1 = r.1 ∧ Rel q.2.1 q.2.2 w r.2
def St_16 (Rel : (Nat → Nat → Int32) → (Nat → Nat → Int64) → (Nat → Nat) → (Nat → Nat → Int32) → Prop) : Prop := ∀ I J w M (a : Int32), Rel I J w M → ∃ q r, P_X6_crowds I a = some q ∧ P_X7_crowds M a = some r ∧ q = r.1 ∧ Rel I J w r.2
def St_17 (Rel : (Nat → Nat → Int32) → (Nat → Nat → Int64) → (Nat → Nat) → (Nat → Nat → Int32) → Prop) : Prop := ∀ I J w M, Rel I J w M → ∃ q r, P_X6_clean I J = some q ∧ P_X7_clean M = some r ∧ q.1 = r.1 ∧ Rel q.2.1 q.2.2 w r.2
def St_18 (Rel : (Nat → Nat → Int32) → (Nat → Nat → Int64) → (Nat → Nat) → (Nat → Nat → Int32) → Prop) : Prop := ∀ I J w M (a b : Int32), Rel I J w M → ∃ q r, P_X6_fits I J a b = some q ∧ P_X7_fits M a b = some r ∧ q.1 = r.1 ∧ Rel q.2.1 q.2.2 w r.2
def St_19 (Rel : (Nat → Nat → Int32) → (Nat → Nat → Int64) → (Nat → Nat) → (Nat → Nat → Int32) → Prop) : Prop := ∀ I J w M (a : Int32), Rel I J w M → ∃ q r, P_X6_free I J a = some q ∧ P_X7_free M a = some r ∧ q.1 = r.1 ∧ Rel q.2.1 q.2.2 w r.2
def St_20 (Rel : (Nat → Nat → Int32) → (Nat → Nat → Int64) → (Nat → Nat) → (Nat → Nat → Int32) → Prop) : Prop := ∀ I J w M (a b : Int32), Rel I J w M → ∃ q r, P_X6_freeAt I J a b = some q ∧ P_X7_freeAt M a b = some r ∧ q.1 = r.1 ∧ Rel q.2.1 q.2.2 w r.2
def St_21 (Rel : (Nat → Nat → Int32) → (Nat → Nat → Int64) → (Nat → Nat) → (Nat → Nat → Int32) → Prop) : Prop := ∀ I J w M (a : Int32), Rel I J w M → ∃ q r, P_X6_quietest I J a = some q ∧ P_X7_quietest M a = some r ∧ q.1 = r.1 ∧ Rel q.2.1 q.2.2 w r.2
def St_22 (Rel : (Nat → Nat → Int32) → (Nat → Nat → Int64) → (Nat → Nat) → (Nat → Nat → Int32) → Prop) : Prop := ∀ I J w M (a : Int32), Rel I J w M → ∃ q r, P_X6_planned I J a = some q ∧ P_X7_planned M a = some r ∧ q.1 = r.1 ∧ Rel q.2.1 q.2.2 w r.2
def St_23 (Rel : (Nat → Nat → Int32) → (Nat → Nat → Int64) → (Nat → Nat) → (Nat → Nat → Int32) → Prop) : Prop := ∀ I J w M, Rel I J w M → ∃ q r, P_X6_mended I J = some q ∧ P_X7_mended M = some r ∧ q.1 = r.1 ∧ Rel q.2.1 q.2.2 w r.2
def St_24 (Rel : (Nat → Nat → Int32) → (Nat → Nat → Int64) → (Nat → Nat) → (Nat → Nat → Int32) → Prop) : Prop := ∀ I J w M, Rel I J w M → ∃ q r, P_X6_leastBand I J = some q ∧ P_X7_leastBand M = some r ∧ q.1 = r.1 ∧ Rel q.2.1 q.2.2 w r.2
def St_25 (Rel : (Nat → Nat → Int32) → (Nat → Nat → Int64) → (Nat → Nat) → (Nat → Nat → Int32) → Prop) : Prop := ∀ I J w M (a b c d : Int32), Rel I J w M → ∃ q r, P_X6_grown I J a b c d = some q ∧ P_X7_grown M a b c d = some r ∧ q.1 = r.1 ∧ Rel q.2.1 q.2.2 w r.2
def St_26 (Rel : (Nat → Nat → Int32) → (Nat → Nat → Int64) → (Nat → Nat) → (Nat → Nat → Int32) → Prop) : Prop := ∀ I J w M, Rel I J w M → ∃ q r, P_X6_worst I J = some q ∧ P_X7_worst M = some r ∧ q.1 = r.1 ∧ Rel q.2.1 q.2.2 w r.2
def St_27 (Rel : (Nat → Nat → Int32) → (Nat → Nat → Int64) → (Nat → Nat) → (Nat → Nat → Int32) → Prop) : Prop := ∀ I J w M (a b : Int32), Rel I J w M → ∃ q r, P_X6_ifTuned I J a b = some q ∧ P_X7_ifTuned M a b = some r ∧ q.1 = r.1 ∧ Rel q.2.1 q.2.2 w r.2
def St_28 (Rel : (Nat → Nat → Int32) → (Nat → Nat → Int64) → (Nat → Nat) → (Nat → Nat → Int32) → Prop) : Prop := ∀ I J w M (a b : Int32), Rel I J w M → ∃ q r, P_X6_bySort I J a b = some q ∧ P_X7_bySort M a b = some r ∧ q.1 = r.1 ∧ Rel q.2.1 q.2.2 w r.2
def St_29 (Rel : (Nat → Nat → Int32) → (Nat → Nat → Int64) → (Nat → Nat) → (Nat → Nat → Int32) → Prop) : Prop := ∀ I J w M, Rel I J w M → ∃ q r, P_X6_loudest I J = some q ∧ P_X7_loudest M = some r ∧ q.1 = r.1 ∧ Rel q.2.1 q.2.2 w r.2
def St_30 (Rel : (Nat → Nat → Int32) → (Nat → Nat → Int64) → (Nat → Nat) → (Nat → Nat → Int32) → Prop) : Prop := ∀ I J w M (a : Int32), Rel I J w M → ∃ q r, P_X6_turned I J a = some q ∧ P_X7_turned M a = some r ∧ q.1 = r.1 ∧ Rel q.2.1 q.2.2 w r.2
def St_31 (Rel : (Nat → Nat → Int32) → (Nat → Nat → Int64) → (Nat → Nat) → (Nat → Nat → Int32) → Prop) : Prop := ∀ I J w M, Rel I J w M → ∃ q r, P_X6_left I J = some q ∧ P_X7_left M = some r ∧ q.1 = r.1 ∧ Rel q.2.1 q.2.2 w r.2
def St_32 (Rel : (Nat → Nat → Int32) → (Nat → Nat → Int64) → (Nat → Nat) → (Nat → Nat → Int32) → Prop) : Prop := ∀ I J w M, Rel I J w M → ∃ q r, P_X6_bestSwap I J = some q ∧ P_X7_bestSwap M = some r ∧ q.1 = r.1 ∧ Rel q.2.1 q.2.2 w r.2
def St_33 (Rel : (Nat → Nat → Int32) → (Nat → Nat → Int64) → (Nat → Nat) → (Nat → Nat → Int32) → Prop) : Prop := ∀ I J w M (a : Int32), Rel I J w M → ∃ q r, P_X6_when I J a = some q ∧ P_X7_when M a = some r ∧ q.1 = r.1 ∧ Rel q.2.1 q.2.2 w r.2
def St_34 (Rel : (Nat → Nat → Int32) → (Nat → Nat → Int64) → (Nat → Nat) → (Nat → Nat → Int32) → Prop) : Prop := ∀ I J w M (a : Int32), Rel I J w M → ∃ q r, P_X6_clearance I J a = some q ∧ P_X7_clearance M a = some r ∧ q.1 = r.1 ∧ Rel q.2.1 q.2.2 w r.2
def St_35 (Rel : (Nat → Nat → Int32) → (Nat → Nat → Int64) → (Nat → Nat) → (Nat → Nat → Int32) → Prop) : Prop := ∀ I J w M (a : Int32), Rel I J w M → ∃ q r, P_X6_nearest I a = some q ∧ P_X7_nearest M a = some r ∧ q = r.1 ∧ Rel I J w r.2
def St_36 (Rel : (Nat → Nat → Int32) → (Nat → Nat → Int64) → (Nat → Nat) → (Nat → Nat → Int32) → Prop) : Prop := ∀ I J w M, Rel I J w M → ∃ q r, P_X6_mostSpace I J = some q ∧ P_X7_mostSpace M = some r ∧ q.1 = r.1 ∧ Rel q.2.1 q.2.2 w r.2
def St_37 (Rel : (Nat → Nat → Int32) → (Nat → Nat → Int64) → (Nat → Nat) → (Nat → Nat → Int32) → Prop) : Prop := ∀ I J w M (a : Int32), Rel I J w M → ∃ q r, P_X6_spare I J a = some q ∧ P_X7_spare M a = some r ∧ q.1 = r.1 ∧ Rel q.2.1 q.2.2 w r.2
def St_38 (Rel : (Nat → Nat → Int32) → (Nat → Nat → Int64) → (Nat → Nat) → (Nat → Nat → Int32) → Prop) : Prop := ∀ I J w M (a : Int32), Rel I J w M → ∃ q r, P_X6_rank I J a = some q ∧ P_X7_rank M a = some r ∧ q.1 = r.1 ∧ Rel q.2.1 q.2.2 w r.2
def St_39 (Rel : (Nat → Nat → Int32) → (Nat → Nat → Int64) → (Nat → Nat) → (Nat → Nat → Int32) → Prop) : Prop := ∀ I J w M (a b : Int32), Rel I J w M → ∃ q r, P_X6_linked I a b = some q ∧ P_X7_linked M a b = some r ∧ q = r.1 ∧ Rel I J w r.2
def St_40 (Rel : (Nat → Nat → Int32) → (Nat → Nat → Int64) → (Nat → Nat) → (Nat → Nat → Int32) → Prop) : Prop := ∀ I J w M (a : Int32), Rel I J w M → ∃ q r, P_X6_mostPower I J a = some q ∧ P_X7_mostPower M a = some r ∧ q.1 = r.1 ∧ Rel q.2.1 q.2.2 w r.2
def St_41 (Rel : (Nat → Nat → Int32) → (Nat → Nat → Int64) → (Nat → Nat) → (Nat → Nat → Int32) → Prop) : Prop := ∀ I J w M, Rel I J w M → ∃ q r, P_X6_mostGuard I J = some q ∧ P_X7_mostGuard M = some r ∧ q.1 = r.1 ∧ Rel q.2.1 q.2.2 w r.2
def St_42 (Rel : (Nat → Nat → Int32) → (Nat → Nat → Int64) → (Nat → Nat) → (Nat → Nat → Int32) → Prop) : Prop := ∀ I J w M (a b c : Int32), Rel I J w M → ∃ q r, P_X6_chance I J a b c = some q ∧ P_X7_chance M a b c = some r ∧ q.1 = r.1 ∧ Rel q.2.1 q.2.2 w r.2
def St_43 (Rel : (Nat → Nat → Int32) → (Nat → Nat → Int64) → (Nat → Nat) → (Nat → Nat → Int32) → Prop) : Prop := ∀ I J w M, Rel I J w M → ∃ q r, P_X6_undo I J w = some q ∧ P_X7_undo M = some r ∧ q.1 = r.1 ∧ Rel q.2.1 q.2.2 w r.2
def St_44 (Rel : (Nat → Nat → Int32) → (Nat → Nat → Int64) → (Nat → Nat) → (Nat → Nat → Int32) → Prop) : Prop := ∀ I J w M, Rel I J w M → ∃ q r, P_X6_keep I J = some q ∧ P_X7_keep M = some r ∧ q.1 = r.1 ∧ Rel q.2.1 q.2.2 w r.2
def St_45 (Rel : (Nat → Nat → Int32) → (Nat → Nat → Int64) → (Nat → Nat) → (Nat → Nat → Int32) → Prop) : Prop := ∀ I J w M, Rel I J w M → ∃ q r, P_X6_back I J = some q ∧ P_X7_back M = some r ∧ q.1 = r.1 ∧ Rel q.2.1 q.2.2 w r.2
def St_46 (Rel : (Nat → Nat → Int32) → (Nat → Nat → Int64) → (Nat → Nat) → (Nat → Nat → Int32) → Prop) : Prop := ∀ I J w M (a : Int32), Rel I J w M → ∃ q r, P_X6_count I J a = some q ∧ P_X7_count M a = some r ∧ q = r.1 ∧ Rel I J w r.2
