/-- the reference's cells: the object at mb, its arrays behind it, in the order in which its constructor makes them -/
def mlT : List (Nat × Nat) := [(19, 0), (1, 400), (0, 2400), (0, 7), (0, 288), (0, 6), (0, 111), (0, 400), (3, 64), (3, 12), (0, 142), (0, 2220), (0, 6), (2, 2800), (0, 2800), (0, 4), (0, 4), (0, 4), (0, 4), (0, 4), (0, 4), (0, 7), (0, 427), (0, 427), (0, 427), (0, 111), (0, 568), (0, 4), (0, 4), (2, 4)]
def mlF : List Nat := [1, 0, 0, 2, 3, 4, 5, 6, 0, 0, 0, 0, 0, 0, 0, 7, 0, 8, 0, 9, 10, 0, 0, 11, 0, 0, 12, 13, 14, 15, 16, 17, 18, 19, 20, 0, 0, 21, 0, 22, 23, 24, 25, 0, 26, 27, 28, 29]
def mlS (mb : Nat) : ST := fun a => mlT.getD (a - mb) (0, 0)
def mlL (mb : Nat) : List Nat := List.range' mb 30
def mlR (mb : Nat) : RT := fun a k => if a = mb then some (mb + mlF.getD k 0) else none
theorem ml_mem (mb k : Nat) (h : k < 30) : mb + k ∈ mlL mb := by unfold mlL; rw [List.mem_range'_1]; omega
theorem ml_mem0 (mb : Nat) : mb ∈ mlL mb := ml_mem mb 0 (by decide)
theorem ml_S (mb k : Nat) {q : Nat × Nat} (h : mlT.getD k (0, 0) = q) : mlS mb (mb + k) = q := by unfold mlS; rw [Nat.add_sub_cancel_left]; exact h
theorem ml_S0 (mb : Nat) : mlS mb mb = (19, 0) := ml_S mb 0 rfl
theorem ml_R (mb k : Nat) {o : Nat} (h : mlF.getD k 0 = o) : mlR mb mb k = some (mb + o) := by unfold mlR; rw [if_pos rfl, h]
theorem vw_X12_107 : VW RX12 107 yX12_four cX12_four 3 (none) 1 := ⟨⟨tw_1401, tw_1403, tw_39, tw_130, tw_1404⟩, by decide +kernel⟩
theorem vw_X12_117 : VW RX12 117 yX12_see cX12_see 1 (some .int) 0 := ⟨⟨tw_1421, tw_1423, tw_42, tw_130, tw_1424⟩, by decide +kernel⟩
theorem vw_X12_121 : VW RX12 121 yX12_isLetter cX12_isLetter 2 (some .boolean) 1 := ⟨⟨tw_1434, tw_1436, tw_45, tw_130, tw_1437⟩, by decide +kernel⟩
theorem vw_X12_125 : VW RX12 125 yX12_isWord cX12_isWord 6 (some .boolean) 1 := ⟨⟨tw_1430, tw_1432, tw_44, tw_130, tw_1433⟩, by decide +kernel⟩
theorem vw_X12_129 : VW RX12 129 yX12_passWord cX12_passWord 1 (none) 0 := ⟨⟨tw_1455, tw_1457, tw_49, tw_130, tw_1458⟩, by decide +kernel⟩
theorem vw_X12_132 : VW RX12 132 yX12_isDigit cX12_isDigit 2 (some .boolean) 1 := ⟨⟨tw_1463, tw_1465, tw_51, tw_130, tw_1466⟩, by decide +kernel⟩
theorem vw_X12_135 : VW RX12 135 yX12_fails cX12_fails 3 (some .boolean) 2 := ⟨⟨tw_1443, tw_1445, tw_46, tw_130, tw_1446⟩, by decide +kernel⟩
theorem sw_X12_142 : SW RX12 142 yX12_in cX12_in 6 (some .boolean) 3 := ⟨⟨tw_1467, tw_1468, tw_130, tw_1469⟩, by decide +kernel⟩
theorem sw_X12_182 : SW RX12 182 yX12_strength cX12_strength 1 (some .int) 1 := ⟨⟨tw_1561, tw_1562, tw_130, tw_1563⟩, by decide +kernel⟩
theorem vw_X12_186 : VW RX12 186 yX12_puts cX12_puts 3 (none) 2 := ⟨⟨tw_1511, tw_1513, tw_62, tw_130, tw_1514⟩, by decide +kernel⟩
theorem vw_X12_191 : VW RX12 191 yX12_numberHere cX12_numberHere 5 (some .boolean) 2 := ⟨⟨tw_1459, tw_1461, tw_50, tw_130, tw_1462⟩, by decide +kernel⟩
theorem vw_X12_194 : VW RX12 194 yX12_makes cX12_makes 2 (some .boolean) 1 := ⟨⟨tw_1507, tw_1509, tw_61, tw_130, tw_1510⟩, by decide +kernel⟩
theorem vw_X12_197 : VW RX12 197 yX12_wordHere cX12_wordHere 1 (some .int) 0 := ⟨⟨tw_1515, tw_1517, tw_63, tw_130, tw_1518⟩, by decide +kernel⟩
theorem vw_X12_200 : VW RX12 200 yX12_value cX12_value 3 (some .boolean) 0 := ⟨⟨tw_1502, tw_1504, tw_60, tw_130, tw_1505⟩, by decide +kernel⟩
theorem vw_X12_204 : VW RX12 204 yX12_term cX12_term 2 (some .boolean) 0 := ⟨⟨tw_1498, tw_1500, tw_59, tw_130, tw_1501⟩, by decide +kernel⟩
theorem vw_X12_207 : VW RX12 207 yX12_sum cX12_sum 2 (some .boolean) 0 := ⟨⟨tw_1494, tw_1496, tw_58, tw_130, tw_1497⟩, by decide +kernel⟩
theorem vw_X12_212 : VW RX12 212 yX12_opens cX12_opens 2 (some .boolean) 1 := ⟨⟨tw_1545, tw_1547, tw_67, tw_130, tw_1548⟩, by decide +kernel⟩
theorem vw_X12_215 : VW RX12 215 yX12_compare cX12_compare 5 (some .boolean) 0 := ⟨⟨tw_1549, tw_1551, tw_68, tw_130, tw_1552⟩, by decide +kernel⟩
theorem vw_X12_218 : VW RX12 218 yX12_settles cX12_settles 2 (none) 1 := ⟨⟨tw_1557, tw_1559, tw_70, tw_130, tw_1560⟩, by decide +kernel⟩
theorem vw_X12_221 : VW RX12 221 yX12_isInside cX12_isInside 2 (some .boolean) 0 := ⟨⟨tw_1564, tw_1566, tw_71, tw_130, tw_1567⟩, by decide +kernel⟩
theorem vw_X12_224 : VW RX12 224 yX12_fact cX12_fact 3 (some .boolean) 0 := ⟨⟨tw_1540, tw_1542, tw_66, tw_130, tw_1543⟩, by decide +kernel⟩
theorem vw_X12_227 : VW RX12 227 yX12_closes cX12_closes 1 (none) 0 := ⟨⟨tw_1553, tw_1555, tw_69, tw_130, tw_1556⟩, by decide +kernel⟩
theorem vw_X12_236 : VW RX12 236 yX12_takesWord cX12_takesWord 3 (some .boolean) 1 := ⟨⟨tw_1532, tw_1534, tw_64, tw_130, tw_1535⟩, by decide +kernel⟩
theorem vw_X12_239 : VW RX12 239 yX12_tested cX12_tested 3 (some .boolean) 0 := ⟨⟨tw_1536, tw_1538, tw_65, tw_130, tw_1539⟩, by decide +kernel⟩
theorem vw_X12_242 : VW RX12 242 yX12_cellHere cX12_cellHere 4 (some .boolean) 3 := ⟨⟨tw_1470, tw_1472, tw_52, tw_130, tw_1473⟩, by decide +kernel⟩
theorem vw_X12_248 : VW RX12 248 yX12_isTownHere cX12_isTownHere 3 (some .boolean) 1 := ⟨⟨tw_1451, tw_1453, tw_48, tw_130, tw_1454⟩, by decide +kernel⟩
theorem vw_X12_253 : VW RX12 253 yX12_isBenchHere cX12_isBenchHere 2 (some .boolean) 1 := ⟨⟨tw_1474, tw_1476, tw_53, tw_130, tw_1477⟩, by decide +kernel⟩
theorem vw_X12_258 : VW RX12 258 yX12_isPersonHere cX12_isPersonHere 3 (some .boolean) 1 := ⟨⟨tw_1478, tw_1480, tw_54, tw_130, tw_1481⟩, by decide +kernel⟩
theorem vw_X12_263 : VW RX12 263 yX12_areTwinsHere cX12_areTwinsHere 4 (some .boolean) 1 := ⟨⟨tw_1482, tw_1484, tw_55, tw_130, tw_1485⟩, by decide +kernel⟩
theorem vw_X12_266 : VW RX12 266 yX12_isCaseHere cX12_isCaseHere 4 (some .boolean) 1 := ⟨⟨tw_1486, tw_1488, tw_56, tw_130, tw_1489⟩, by decide +kernel⟩
theorem vw_X12_271 : VW RX12 271 yX12_isTownWord cX12_isTownWord 1 (some .boolean) 0 := ⟨⟨tw_1425, tw_1427, tw_43, tw_130, tw_1428⟩, by decide +kernel⟩
theorem vw_X12_279 : VW RX12 279 yX12_townLineHere cX12_townLineHere 2 (some .boolean) 1 := ⟨⟨tw_1447, tw_1449, tw_47, tw_130, tw_1450⟩, by decide +kernel⟩
theorem vw_X12_282 : VW RX12 282 yX12_isRightHere cX12_isRightHere 2 (some .boolean) 0 := ⟨⟨tw_1490, tw_1492, tw_57, tw_130, tw_1493⟩, by decide +kernel⟩
theorem vw_X12_285 : VW RX12 285 yX12_clauseHere cX12_clauseHere 3 (some .boolean) 0 := ⟨⟨tw_1417, tw_1419, tw_41, tw_130, tw_1420⟩, by decide +kernel⟩
theorem vw_X12_291 : VW RX12 291 yX12_readsAll cX12_readsAll 2 (some .boolean) 0 := ⟨⟨tw_1413, tw_1415, tw_40, tw_130, tw_1416⟩, by decide +kernel⟩
theorem vw_X12_300 : VW RX12 300 yX12_push cX12_push 3 (none) 1 := ⟨⟨tw_1664, tw_1666, tw_88, tw_130, tw_1667⟩, by decide +kernel⟩
theorem vw_X12_304 : VW RX12 304 yX12_pop cX12_pop 1 (some .long) 0 := ⟨⟨tw_1668, tw_1670, tw_89, tw_130, tw_1671⟩, by decide +kernel⟩
theorem sw_X12_308 : SW RX12 308 yX12_one cX12_one 5 (some .long) 3 := ⟨⟨tw_1672, tw_1673, tw_130, tw_1674⟩, by decide +kernel⟩
theorem vw_X12_312 : VW RX12 312 yX12_personOf cX12_personOf 3 (some .int) 2 := ⟨⟨tw_1594, tw_1596, tw_75, tw_130, tw_1597⟩, by decide +kernel⟩
theorem vw_X12_316 : VW RX12 316 yX12_ageOn cX12_ageOn 3 (some .int) 2 := ⟨⟨tw_1590, tw_1592, tw_74, tw_130, tw_1593⟩, by decide +kernel⟩
theorem vw_X12_319 : VW RX12 319 yX12_isYounger cX12_isYounger 3 (some .boolean) 2 := ⟨⟨tw_1636, tw_1638, tw_83, tw_130, tw_1639⟩, by decide +kernel⟩
theorem sw_X12_322 : SW RX12 322 yX12_isOf cX12_isOf 2 (some .boolean) 2 := ⟨⟨tw_1640, tw_1641, tw_130, tw_1642⟩, by decide +kernel⟩
theorem vw_X12_325 : VW RX12 325 yX12_sitsOn cX12_sitsOn 3 (some .boolean) 2 := ⟨⟨tw_1610, tw_1612, tw_79, tw_130, tw_1613⟩, by decide +kernel⟩
theorem vw_X12_328 : VW RX12 328 yX12_birthdayIn cX12_birthdayIn 3 (some .int) 2 := ⟨⟨tw_1598, tw_1600, tw_76, tw_130, tw_1601⟩, by decide +kernel⟩
theorem vw_X12_331 : VW RX12 331 yX12_caseOf cX12_caseOf 3 (some .int) 2 := ⟨⟨tw_1606, tw_1608, tw_78, tw_130, tw_1609⟩, by decide +kernel⟩
theorem vw_X12_334 : VW RX12 334 yX12_canSit cX12_canSit 6 (some .boolean) 4 := ⟨⟨tw_1632, tw_1634, tw_82, tw_130, tw_1635⟩, by decide +kernel⟩
theorem vw_X12_338 : VW RX12 338 yX12_isRule cX12_isRule 2 (some .boolean) 1 := ⟨⟨tw_1578, tw_1580, tw_72, tw_130, tw_1581⟩, by decide +kernel⟩
theorem vw_X12_341 : VW RX12 341 yX12_isPerson cX12_isPerson 2 (some .boolean) 1 := ⟨⟨tw_1586, tw_1588, tw_73, tw_130, tw_1589⟩, by decide +kernel⟩
theorem vw_X12_344 : VW RX12 344 yX12_hearsNow cX12_hearsNow 3 (some .int) 1 := ⟨⟨tw_1602, tw_1604, tw_77, tw_130, tw_1605⟩, by decide +kernel⟩
theorem vw_X12_347 : VW RX12 347 yX12_isCase cX12_isCase 2 (some .boolean) 1 := ⟨⟨tw_1618, tw_1620, tw_80, tw_130, tw_1621⟩, by decide +kernel⟩
theorem vw_X12_354 : VW RX12 354 yX12_canHear cX12_canHear 4 (some .boolean) 3 := ⟨⟨tw_1628, tw_1630, tw_81, tw_130, tw_1631⟩, by decide +kernel⟩
theorem vw_X12_357 : VW RX12 357 yX12_reckons cX12_reckons 11 (some .long) 3 := ⟨⟨tw_1660, tw_1662, tw_87, tw_130, tw_1663⟩, by decide +kernel⟩
theorem vw_X12_363 : VW RX12 363 yX12_summedBy cX12_summedBy 4 (some .long) 1 := ⟨⟨tw_1656, tw_1658, tw_86, tw_130, tw_1659⟩, by decide +kernel⟩
theorem vw_X12_369 : VW RX12 369 yX12_rightIn cX12_rightIn 10 (some .int) 7 := ⟨⟨tw_1651, tw_1653, tw_85, tw_130, tw_1654⟩, by decide +kernel⟩
theorem vw_X12_373 : VW RX12 373 yX12_rightOf cX12_rightOf 4 (some .int) 3 := ⟨⟨tw_1647, tw_1649, tw_84, tw_130, tw_1650⟩, by decide +kernel⟩
theorem vw_X12_377 : VW RX12 377 yX12_isRuled cX12_isRuled 4 (none) 1 := ⟨⟨tw_1696, tw_1698, tw_93, tw_130, tw_1699⟩, by decide +kernel⟩
theorem vw_X12_380 : VW RX12 380 yX12_isTown cX12_isTown 1 (some .boolean) 0 := ⟨⟨tw_1684, tw_1686, tw_90, tw_130, tw_1687⟩, by decide +kernel⟩
theorem vw_X12_383 : VW RX12 383 yX12_keepsAct cX12_keepsAct 2 (none) 0 := ⟨⟨tw_1688, tw_1690, tw_91, tw_130, tw_1691⟩, by decide +kernel⟩
theorem vw_X12_386 : VW RX12 386 yX12_passes cX12_passes 3 (some .int) 0 := ⟨⟨tw_1692, tw_1694, tw_92, tw_130, tw_1695⟩, by decide +kernel⟩
theorem sw_X12_389 : SW RX12 389 yX12_bits cX12_bits 3 (some .int) 1 := ⟨⟨tw_1700, tw_1701, tw_130, tw_1702⟩, by decide +kernel⟩
theorem vw_X12_392 : VW RX12 392 yX12_mayHear cX12_mayHear 3 (some .boolean) 2 := ⟨⟨tw_1707, tw_1709, tw_94, tw_130, tw_1710⟩, by decide +kernel⟩
theorem vw_X12_395 : VW RX12 395 yX12_begins cX12_begins 5 (some .int) 2 := ⟨⟨tw_1711, tw_1713, tw_95, tw_130, tw_1714⟩, by decide +kernel⟩
theorem sw_X12_401 : SW RX12 401 yX12_spot cX12_spot 3 (some .int) 3 := ⟨⟨tw_1740, tw_1741, tw_130, tw_1742⟩, by decide +kernel⟩
theorem vw_X12_404 : VW RX12 404 yX12_lengthOf cX12_lengthOf 2 (some .int) 1 := ⟨⟨tw_1759, tw_1761, tw_103, tw_130, tw_1762⟩, by decide +kernel⟩
theorem vw_X12_407 : VW RX12 407 yX12_isBusy cX12_isBusy 7 (some .boolean) 4 := ⟨⟨tw_1763, tw_1765, tw_104, tw_130, tw_1766⟩, by decide +kernel⟩
theorem vw_X12_416 : VW RX12 416 yX12_isAhead cX12_isAhead 2 (some .boolean) 0 := ⟨⟨tw_1771, tw_1773, tw_106, tw_130, tw_1774⟩, by decide +kernel⟩
theorem vw_X12_419 : VW RX12 419 yX12_firstDay cX12_firstDay 5 (some .int) 3 := ⟨⟨tw_1755, tw_1757, tw_102, tw_130, tw_1758⟩, by decide +kernel⟩
theorem vw_X12_422 : VW RX12 422 yX12_beginsPlace cX12_beginsPlace 2 (none) 1 := ⟨⟨tw_1747, tw_1749, tw_100, tw_130, tw_1750⟩, by decide +kernel⟩
theorem vw_X12_425 : VW RX12 425 yX12_goesOnAt cX12_goesOnAt 4 (some .boolean) 1 := ⟨⟨tw_1751, tw_1753, tw_101, tw_130, tw_1754⟩, by decide +kernel⟩
theorem vw_X12_428 : VW RX12 428 yX12_countsRow cX12_countsRow 5 (none) 0 := ⟨⟨tw_1767, tw_1769, tw_105, tw_130, tw_1770⟩, by decide +kernel⟩
theorem vw_X12_431 : VW RX12 431 yX12_fillsOpen cX12_fillsOpen 2 (none) 0 := ⟨⟨tw_1732, tw_1734, tw_97, tw_130, tw_1735⟩, by decide +kernel⟩
theorem vw_X12_434 : VW RX12 434 yX12_fillsSpots cX12_fillsSpots 5 (none) 0 := ⟨⟨tw_1736, tw_1738, tw_98, tw_130, tw_1739⟩, by decide +kernel⟩
theorem vw_X12_437 : VW RX12 437 yX12_findsBenches cX12_findsBenches 2 (none) 0 := ⟨⟨tw_1743, tw_1745, tw_99, tw_130, tw_1746⟩, by decide +kernel⟩
theorem vw_X12_442 : VW RX12 442 yX12_benchesNow cX12_benchesNow 1 (some .int) 0 := ⟨⟨tw_1728, tw_1730, tw_96, tw_130, tw_1731⟩, by decide +kernel⟩
theorem vw_X12_447 : VW RX12 447 yX12_fillsChains cX12_fillsChains 5 (none) 1 := ⟨⟨tw_1784, tw_1786, tw_107, tw_130, tw_1787⟩, by decide +kernel⟩
theorem vw_X12_450 : VW RX12 450 yX12_isNext cX12_isNext 4 (some .boolean) 3 := ⟨⟨tw_1788, tw_1790, tw_108, tw_130, tw_1791⟩, by decide +kernel⟩
theorem vw_X12_455 : VW RX12 455 yX12_mostRight cX12_mostRight 8 (some .int) 4 := ⟨⟨tw_1797, tw_1799, tw_109, tw_130, tw_1800⟩, by decide +kernel⟩
theorem vw_X12_459 : VW RX12 459 yX12_isTried cX12_isTried 5 (some .boolean) 2 := ⟨⟨tw_1805, tw_1807, tw_110, tw_130, tw_1808⟩, by decide +kernel⟩
theorem vw_X12_466 : VW RX12 466 yX12_rightThen cX12_rightThen 4 (some .int) 3 := ⟨⟨tw_1835, tw_1837, tw_114, tw_130, tw_1838⟩, by decide +kernel⟩
theorem vw_X12_469 : VW RX12 469 yX12_factValue cX12_factValue 5 (some .int) 4 := ⟨⟨tw_1831, tw_1833, tw_113, tw_130, tw_1834⟩, by decide +kernel⟩
theorem vw_X12_475 : VW RX12 475 yX12_areFactsSo cX12_areFactsSo 7 (some .boolean) 3 := ⟨⟨tw_1827, tw_1829, tw_112, tw_130, tw_1830⟩, by decide +kernel⟩
theorem vw_X12_478 : VW RX12 478 yX12_gathersWho cX12_gathersWho 4 (none) 1 := ⟨⟨tw_1823, tw_1825, tw_111, tw_130, tw_1826⟩, by decide +kernel⟩
theorem vw_X12_481 : VW RX12 481 yX12_alikeBy cX12_alikeBy 7 (some .int) 2 := ⟨⟨tw_1843, tw_1845, tw_115, tw_130, tw_1846⟩, by decide +kernel⟩
theorem vw_X12_499 : VW RX12 499 yX12_draw cX12_draw 2 (some .int) 1 := ⟨⟨tw_1861, tw_1863, tw_117, tw_130, tw_1864⟩, by decide +kernel⟩
theorem vw_X12_506 : VW RX12 506 yX12_hearsDrawn cX12_hearsDrawn 3 (none) 0 := ⟨⟨tw_1857, tw_1859, tw_116, tw_130, tw_1860⟩, by decide +kernel⟩
theorem dX12_in_0 : decode cX12_in 0 = .ok (.lload_n 0, 1) := by decide +kernel
theorem dX12_in_1 : decode cX12_in 1 = .ok (.lload_n 2, 1) := by decide +kernel
theorem dX12_in_2 : decode cX12_in 2 = .ok (.lcmp, 1) := by decide +kernel
theorem dX12_in_3 : decode cX12_in 3 = .ok (.ifCond .lt 14, 3) := by decide +kernel
theorem dX12_in_6 : decode cX12_in 6 = .ok (.lload_n 0, 1) := by decide +kernel
theorem dX12_in_7 : decode cX12_in 7 = .ok (.lload 4, 2) := by decide +kernel
theorem dX12_in_9 : decode cX12_in 9 = .ok (.lcmp, 1) := by decide +kernel
theorem dX12_in_10 : decode cX12_in 10 = .ok (.ifCond .gt 7, 3) := by decide +kernel
theorem dX12_in_13 : decode cX12_in 13 = .ok (.iconst 1, 1) := by decide +kernel
theorem dX12_in_14 : decode cX12_in 14 = .ok (.goto 4, 3) := by decide +kernel
theorem dX12_in_17 : decode cX12_in 17 = .ok (.iconst 0, 1) := by decide +kernel
theorem dX12_in_18 : decode cX12_in 18 = .ok (.ireturn, 1) := by decide +kernel
theorem dX12_isOf_0 : decode cX12_isOf 0 = .ok (.iload_n 0, 1) := by decide +kernel
theorem dX12_isOf_1 : decode cX12_isOf 1 = .ok (.iload_n 1, 1) := by decide +kernel
theorem dX12_isOf_2 : decode cX12_isOf 2 = .ok (.ishr, 1) := by decide +kernel
theorem dX12_isOf_3 : decode cX12_isOf 3 = .ok (.iconst 1, 1) := by decide +kernel
theorem dX12_isOf_4 : decode cX12_isOf 4 = .ok (.iand, 1) := by decide +kernel
theorem dX12_isOf_5 : decode cX12_isOf 5 = .ok (.iconst 1, 1) := by decide +kernel
theorem dX12_isOf_6 : decode cX12_isOf 6 = .ok (.if_icmp .ne 7, 3) := by decide +kernel
theorem dX12_isOf_9 : decode cX12_isOf 9 = .ok (.iconst 1, 1) := by decide +kernel
theorem dX12_isOf_10 : decode cX12_isOf 10 = .ok (.goto 4, 3) := by decide +kernel
theorem dX12_isOf_13 : decode cX12_isOf 13 = .ok (.iconst 0, 1) := by decide +kernel
theorem dX12_isOf_14 : decode cX12_isOf 14 = .ok (.ireturn, 1) := by decide +kernel
theorem dX12_four_0 : decode cX12_four 0 = .ok (.bipush 24, 2) := by decide +kernel
theorem dX12_four_2 : decode cX12_four 2 = .ok (.istore_n 2, 1) := by decide +kernel
theorem dX12_four_3 : decode cX12_four 3 = .ok (.iload_n 2, 1) := by decide +kernel
theorem dX12_four_4 : decode cX12_four 4 = .ok (.ifCond .lt 32, 3) := by decide +kernel
theorem dX12_four_7 : decode cX12_four 7 = .ok (.aload_n 0, 1) := by decide +kernel
theorem dX12_four_8 : decode cX12_four 8 = .ok (.getfield 7, 3) := by decide +kernel
theorem dX12_four_11 : decode cX12_four 11 = .ok (.aload_n 0, 1) := by decide +kernel
theorem dX12_four_12 : decode cX12_four 12 = .ok (.getfield 104, 3) := by decide +kernel
theorem dX12_four_15 : decode cX12_four 15 = .ok (.iload_n 1, 1) := by decide +kernel
theorem dX12_four_16 : decode cX12_four 16 = .ok (.iload_n 2, 1) := by decide +kernel
theorem dX12_four_17 : decode cX12_four 17 = .ok (.ishr, 1) := by decide +kernel
theorem dX12_four_18 : decode cX12_four 18 = .ok (.i2b, 1) := by decide +kernel
theorem dX12_four_19 : decode cX12_four 19 = .ok (.bastore, 1) := by decide +kernel
theorem dX12_four_20 : decode cX12_four 20 = .ok (.aload_n 0, 1) := by decide +kernel
theorem dX12_four_21 : decode cX12_four 21 = .ok (.dup, 1) := by decide +kernel
theorem dX12_four_22 : decode cX12_four 22 = .ok (.getfield 104, 3) := by decide +kernel
theorem dX12_four_25 : decode cX12_four 25 = .ok (.iconst 1, 1) := by decide +kernel
theorem dX12_four_26 : decode cX12_four 26 = .ok (.iadd, 1) := by decide +kernel
theorem dX12_four_27 : decode cX12_four 27 = .ok (.putfield 104, 3) := by decide +kernel
theorem dX12_four_30 : decode cX12_four 30 = .ok (.iinc 2 (-8), 3) := by decide +kernel
theorem dX12_four_33 : decode cX12_four 33 = .ok (.goto (-30), 3) := by decide +kernel
theorem dX12_four_36 : decode cX12_four 36 = .ok (.return_, 1) := by decide +kernel
theorem dX12_feed_0 : decode cX12_feed 0 = .ok (.aload_n 0, 1) := by decide +kernel
theorem dX12_feed_1 : decode cX12_feed 1 = .ok (.getfield 104, 3) := by decide +kernel
theorem dX12_feed_4 : decode cX12_feed 4 = .ok (.bipush 20, 2) := by decide +kernel
theorem dX12_feed_6 : decode cX12_feed 6 = .ok (.iadd, 1) := by decide +kernel
theorem dX12_feed_7 : decode cX12_feed 7 = .ok (.sipush 400, 3) := by decide +kernel
theorem dX12_feed_10 : decode cX12_feed 10 = .ok (.if_icmp .le 5, 3) := by decide +kernel
theorem dX12_feed_13 : decode cX12_feed 13 = .ok (.iconst (-1), 1) := by decide +kernel
theorem dX12_feed_14 : decode cX12_feed 14 = .ok (.ireturn, 1) := by decide +kernel
theorem dX12_feed_15 : decode cX12_feed 15 = .ok (.aload_n 0, 1) := by decide +kernel
theorem dX12_feed_16 : decode cX12_feed 16 = .ok (.iload_n 1, 1) := by decide +kernel
theorem dX12_feed_17 : decode cX12_feed 17 = .ok (.invokevirtual 107, 3) := by decide +kernel
theorem dX12_feed_20 : decode cX12_feed 20 = .ok (.aload_n 0, 1) := by decide +kernel
theorem dX12_feed_21 : decode cX12_feed 21 = .ok (.iload_n 2, 1) := by decide +kernel
theorem dX12_feed_22 : decode cX12_feed 22 = .ok (.invokevirtual 107, 3) := by decide +kernel
theorem dX12_feed_25 : decode cX12_feed 25 = .ok (.aload_n 0, 1) := by decide +kernel
theorem dX12_feed_26 : decode cX12_feed 26 = .ok (.iload_n 3, 1) := by decide +kernel
theorem dX12_feed_27 : decode cX12_feed 27 = .ok (.invokevirtual 107, 3) := by decide +kernel
theorem dX12_feed_30 : decode cX12_feed 30 = .ok (.aload_n 0, 1) := by decide +kernel
theorem dX12_feed_31 : decode cX12_feed 31 = .ok (.iload 4, 2) := by decide +kernel
theorem dX12_feed_33 : decode cX12_feed 33 = .ok (.invokevirtual 107, 3) := by decide +kernel
theorem dX12_feed_36 : decode cX12_feed 36 = .ok (.aload_n 0, 1) := by decide +kernel
theorem dX12_feed_37 : decode cX12_feed 37 = .ok (.iload 5, 2) := by decide +kernel
theorem dX12_feed_39 : decode cX12_feed 39 = .ok (.invokevirtual 107, 3) := by decide +kernel
theorem dX12_feed_42 : decode cX12_feed 42 = .ok (.aload_n 0, 1) := by decide +kernel
theorem dX12_feed_43 : decode cX12_feed 43 = .ok (.getfield 104, 3) := by decide +kernel
theorem dX12_feed_46 : decode cX12_feed 46 = .ok (.ireturn, 1) := by decide +kernel
theorem dX12_end_0 : decode cX12_end 0 = .ok (.iload_n 1, 1) := by decide +kernel
theorem dX12_end_1 : decode cX12_end 1 = .ok (.ifCond .lt 11, 3) := by decide +kernel
theorem dX12_end_4 : decode cX12_end 4 = .ok (.iload_n 1, 1) := by decide +kernel
theorem dX12_end_5 : decode cX12_end 5 = .ok (.aload_n 0, 1) := by decide +kernel
theorem dX12_end_6 : decode cX12_end 6 = .ok (.getfield 104, 3) := by decide +kernel
theorem dX12_end_9 : decode cX12_end 9 = .ok (.if_icmp .le 5, 3) := by decide +kernel
theorem dX12_end_12 : decode cX12_end 12 = .ok (.iconst (-1), 1) := by decide +kernel
theorem dX12_end_13 : decode cX12_end 13 = .ok (.ireturn, 1) := by decide +kernel
theorem dX12_end_14 : decode cX12_end 14 = .ok (.aload_n 0, 1) := by decide +kernel
theorem dX12_end_15 : decode cX12_end 15 = .ok (.iload_n 1, 1) := by decide +kernel
theorem dX12_end_16 : decode cX12_end 16 = .ok (.putfield 104, 3) := by decide +kernel
theorem dX12_end_19 : decode cX12_end 19 = .ok (.iload_n 1, 1) := by decide +kernel
theorem dX12_end_20 : decode cX12_end 20 = .ok (.ireturn, 1) := by decide +kernel
theorem dX12_fails_0 : decode cX12_fails 0 = .ok (.aload_n 0, 1) := by decide +kernel
theorem dX12_fails_1 : decode cX12_fails 1 = .ok (.getfield 111, 3) := by decide +kernel
theorem dX12_fails_4 : decode cX12_fails 4 = .ok (.ifCond .ne 15, 3) := by decide +kernel
theorem dX12_fails_7 : decode cX12_fails 7 = .ok (.aload_n 0, 1) := by decide +kernel
theorem dX12_fails_8 : decode cX12_fails 8 = .ok (.iconst 1, 1) := by decide +kernel
theorem dX12_fails_9 : decode cX12_fails 9 = .ok (.bipush 8, 2) := by decide +kernel
theorem dX12_fails_11 : decode cX12_fails 11 = .ok (.iload_n 2, 1) := by decide +kernel
theorem dX12_fails_12 : decode cX12_fails 12 = .ok (.imul, 1) := by decide +kernel
theorem dX12_fails_13 : decode cX12_fails 13 = .ok (.iadd, 1) := by decide +kernel
theorem dX12_fails_14 : decode cX12_fails 14 = .ok (.iload_n 1, 1) := by decide +kernel
theorem dX12_fails_15 : decode cX12_fails 15 = .ok (.iadd, 1) := by decide +kernel
theorem dX12_fails_16 : decode cX12_fails 16 = .ok (.putfield 111, 3) := by decide +kernel
theorem dX12_fails_19 : decode cX12_fails 19 = .ok (.iconst 0, 1) := by decide +kernel
theorem dX12_fails_20 : decode cX12_fails 20 = .ok (.ireturn, 1) := by decide +kernel
theorem dX12_see_0 : decode cX12_see 0 = .ok (.aload_n 0, 1) := by decide +kernel
theorem dX12_see_1 : decode cX12_see 1 = .ok (.getfield 114, 3) := by decide +kernel
theorem dX12_see_4 : decode cX12_see 4 = .ok (.aload_n 0, 1) := by decide +kernel
theorem dX12_see_5 : decode cX12_see 5 = .ok (.getfield 104, 3) := by decide +kernel
theorem dX12_see_8 : decode cX12_see 8 = .ok (.if_icmp .ge 30, 3) := by decide +kernel
theorem dX12_see_11 : decode cX12_see 11 = .ok (.aload_n 0, 1) := by decide +kernel
theorem dX12_see_12 : decode cX12_see 12 = .ok (.getfield 7, 3) := by decide +kernel
theorem dX12_see_15 : decode cX12_see 15 = .ok (.aload_n 0, 1) := by decide +kernel
theorem dX12_see_16 : decode cX12_see 16 = .ok (.getfield 114, 3) := by decide +kernel
theorem dX12_see_19 : decode cX12_see 19 = .ok (.baload, 1) := by decide +kernel
theorem dX12_see_20 : decode cX12_see 20 = .ok (.bipush 32, 2) := by decide +kernel
theorem dX12_see_22 : decode cX12_see 22 = .ok (.if_icmp .ne 16, 3) := by decide +kernel
theorem dX12_see_25 : decode cX12_see 25 = .ok (.aload_n 0, 1) := by decide +kernel
theorem dX12_see_26 : decode cX12_see 26 = .ok (.dup, 1) := by decide +kernel
theorem dX12_see_27 : decode cX12_see 27 = .ok (.getfield 114, 3) := by decide +kernel
theorem dX12_see_30 : decode cX12_see 30 = .ok (.iconst 1, 1) := by decide +kernel
theorem dX12_see_31 : decode cX12_see 31 = .ok (.iadd, 1) := by decide +kernel
theorem dX12_see_32 : decode cX12_see 32 = .ok (.putfield 114, 3) := by decide +kernel
theorem dX12_see_35 : decode cX12_see 35 = .ok (.goto (-35), 3) := by decide +kernel
theorem dX12_see_38 : decode cX12_see 38 = .ok (.aload_n 0, 1) := by decide +kernel
theorem dX12_see_39 : decode cX12_see 39 = .ok (.getfield 114, 3) := by decide +kernel
theorem dX12_see_42 : decode cX12_see 42 = .ok (.aload_n 0, 1) := by decide +kernel
theorem dX12_see_43 : decode cX12_see 43 = .ok (.getfield 104, 3) := by decide +kernel
theorem dX12_see_46 : decode cX12_see 46 = .ok (.if_icmp .ge 19, 3) := by decide +kernel
theorem dX12_see_49 : decode cX12_see 49 = .ok (.aload_n 0, 1) := by decide +kernel
theorem dX12_see_50 : decode cX12_see 50 = .ok (.getfield 7, 3) := by decide +kernel
theorem dX12_see_53 : decode cX12_see 53 = .ok (.aload_n 0, 1) := by decide +kernel
theorem dX12_see_54 : decode cX12_see 54 = .ok (.getfield 114, 3) := by decide +kernel
theorem dX12_see_57 : decode cX12_see 57 = .ok (.baload, 1) := by decide +kernel
theorem dX12_see_58 : decode cX12_see 58 = .ok (.sipush 255, 3) := by decide +kernel
theorem dX12_see_61 : decode cX12_see 61 = .ok (.iand, 1) := by decide +kernel
theorem dX12_see_62 : decode cX12_see 62 = .ok (.goto 4, 3) := by decide +kernel
theorem dX12_see_65 : decode cX12_see 65 = .ok (.iconst (-1), 1) := by decide +kernel
theorem dX12_see_66 : decode cX12_see 66 = .ok (.ireturn, 1) := by decide +kernel
theorem dX12_isDigit_0 : decode cX12_isDigit 0 = .ok (.iload_n 1, 1) := by decide +kernel
theorem dX12_isDigit_1 : decode cX12_isDigit 1 = .ok (.aload_n 0, 1) := by decide +kernel
theorem dX12_isDigit_2 : decode cX12_isDigit 2 = .ok (.getfield 104, 3) := by decide +kernel
theorem dX12_isDigit_5 : decode cX12_isDigit 5 = .ok (.if_icmp .ge 29, 3) := by decide +kernel
theorem dX12_isDigit_8 : decode cX12_isDigit 8 = .ok (.aload_n 0, 1) := by decide +kernel
theorem dX12_isDigit_9 : decode cX12_isDigit 9 = .ok (.getfield 7, 3) := by decide +kernel
theorem dX12_isDigit_12 : decode cX12_isDigit 12 = .ok (.iload_n 1, 1) := by decide +kernel
theorem dX12_isDigit_13 : decode cX12_isDigit 13 = .ok (.baload, 1) := by decide +kernel
theorem dX12_isDigit_14 : decode cX12_isDigit 14 = .ok (.bipush 48, 2) := by decide +kernel
theorem dX12_isDigit_16 : decode cX12_isDigit 16 = .ok (.if_icmp .lt 18, 3) := by decide +kernel
theorem dX12_isDigit_19 : decode cX12_isDigit 19 = .ok (.aload_n 0, 1) := by decide +kernel
theorem dX12_isDigit_20 : decode cX12_isDigit 20 = .ok (.getfield 7, 3) := by decide +kernel
theorem dX12_isDigit_23 : decode cX12_isDigit 23 = .ok (.iload_n 1, 1) := by decide +kernel
theorem dX12_isDigit_24 : decode cX12_isDigit 24 = .ok (.baload, 1) := by decide +kernel
theorem dX12_isDigit_25 : decode cX12_isDigit 25 = .ok (.bipush 57, 2) := by decide +kernel
theorem dX12_isDigit_27 : decode cX12_isDigit 27 = .ok (.if_icmp .gt 7, 3) := by decide +kernel
theorem dX12_isDigit_30 : decode cX12_isDigit 30 = .ok (.iconst 1, 1) := by decide +kernel
theorem dX12_isDigit_31 : decode cX12_isDigit 31 = .ok (.goto 4, 3) := by decide +kernel
theorem dX12_isDigit_34 : decode cX12_isDigit 34 = .ok (.iconst 0, 1) := by decide +kernel
theorem dX12_isDigit_35 : decode cX12_isDigit 35 = .ok (.ireturn, 1) := by decide +kernel
theorem dX12_isLetter_0 : decode cX12_isLetter 0 = .ok (.iload_n 1, 1) := by decide +kernel
theorem dX12_isLetter_1 : decode cX12_isLetter 1 = .ok (.aload_n 0, 1) := by decide +kernel
theorem dX12_isLetter_2 : decode cX12_isLetter 2 = .ok (.getfield 104, 3) := by decide +kernel
theorem dX12_isLetter_5 : decode cX12_isLetter 5 = .ok (.if_icmp .ge 29, 3) := by decide +kernel
theorem dX12_isLetter_8 : decode cX12_isLetter 8 = .ok (.aload_n 0, 1) := by decide +kernel
theorem dX12_isLetter_9 : decode cX12_isLetter 9 = .ok (.getfield 7, 3) := by decide +kernel
theorem dX12_isLetter_12 : decode cX12_isLetter 12 = .ok (.iload_n 1, 1) := by decide +kernel
theorem dX12_isLetter_13 : decode cX12_isLetter 13 = .ok (.baload, 1) := by decide +kernel
theorem dX12_isLetter_14 : decode cX12_isLetter 14 = .ok (.bipush 97, 2) := by decide +kernel
theorem dX12_isLetter_16 : decode cX12_isLetter 16 = .ok (.if_icmp .lt 18, 3) := by decide +kernel
theorem dX12_isLetter_19 : decode cX12_isLetter 19 = .ok (.aload_n 0, 1) := by decide +kernel
theorem dX12_isLetter_20 : decode cX12_isLetter 20 = .ok (.getfield 7, 3) := by decide +kernel
theorem dX12_isLetter_23 : decode cX12_isLetter 23 = .ok (.iload_n 1, 1) := by decide +kernel
theorem dX12_isLetter_24 : decode cX12_isLetter 24 = .ok (.baload, 1) := by decide +kernel
theorem dX12_isLetter_25 : decode cX12_isLetter 25 = .ok (.bipush 122, 2) := by decide +kernel
theorem dX12_isLetter_27 : decode cX12_isLetter 27 = .ok (.if_icmp .gt 7, 3) := by decide +kernel
theorem dX12_isLetter_30 : decode cX12_isLetter 30 = .ok (.iconst 1, 1) := by decide +kernel
theorem dX12_isLetter_31 : decode cX12_isLetter 31 = .ok (.goto 4, 3) := by decide +kernel
theorem dX12_isLetter_34 : decode cX12_isLetter 34 = .ok (.iconst 0, 1) := by decide +kernel
theorem dX12_isLetter_35 : decode cX12_isLetter 35 = .ok (.ireturn, 1) := by decide +kernel
theorem dX12_isWord_0 : decode cX12_isWord 0 = .ok (.aload_n 0, 1) := by decide +kernel
theorem dX12_isWord_1 : decode cX12_isWord 1 = .ok (.invokevirtual 117, 3) := by decide +kernel
theorem dX12_isWord_4 : decode cX12_isWord 4 = .ok (.pop, 1) := by decide +kernel
theorem dX12_isWord_5 : decode cX12_isWord 5 = .ok (.lconst 0, 1) := by decide +kernel
theorem dX12_isWord_6 : decode cX12_isWord 6 = .ok (.lstore_n 3, 1) := by decide +kernel
theorem dX12_isWord_7 : decode cX12_isWord 7 = .ok (.iconst 0, 1) := by decide +kernel
theorem dX12_isWord_8 : decode cX12_isWord 8 = .ok (.istore 5, 2) := by decide +kernel
theorem dX12_isWord_10 : decode cX12_isWord 10 = .ok (.aload_n 0, 1) := by decide +kernel
theorem dX12_isWord_11 : decode cX12_isWord 11 = .ok (.aload_n 0, 1) := by decide +kernel
theorem dX12_isWord_12 : decode cX12_isWord 12 = .ok (.getfield 114, 3) := by decide +kernel
theorem dX12_isWord_15 : decode cX12_isWord 15 = .ok (.iload 5, 2) := by decide +kernel
theorem dX12_isWord_17 : decode cX12_isWord 17 = .ok (.iadd, 1) := by decide +kernel
theorem dX12_isWord_18 : decode cX12_isWord 18 = .ok (.invokevirtual 121, 3) := by decide +kernel
theorem dX12_isWord_21 : decode cX12_isWord 21 = .ok (.ifCond .eq 35, 3) := by decide +kernel
theorem dX12_isWord_24 : decode cX12_isWord 24 = .ok (.iload 5, 2) := by decide +kernel
theorem dX12_isWord_26 : decode cX12_isWord 26 = .ok (.bipush 8, 2) := by decide +kernel
theorem dX12_isWord_28 : decode cX12_isWord 28 = .ok (.if_icmp .ge 22, 3) := by decide +kernel
theorem dX12_isWord_31 : decode cX12_isWord 31 = .ok (.lload_n 3, 1) := by decide +kernel
theorem dX12_isWord_32 : decode cX12_isWord 32 = .ok (.bipush 8, 2) := by decide +kernel
theorem dX12_isWord_34 : decode cX12_isWord 34 = .ok (.lshl, 1) := by decide +kernel
theorem dX12_isWord_35 : decode cX12_isWord 35 = .ok (.aload_n 0, 1) := by decide +kernel
theorem dX12_isWord_36 : decode cX12_isWord 36 = .ok (.getfield 7, 3) := by decide +kernel
theorem dX12_isWord_39 : decode cX12_isWord 39 = .ok (.aload_n 0, 1) := by decide +kernel
theorem dX12_isWord_40 : decode cX12_isWord 40 = .ok (.getfield 114, 3) := by decide +kernel
theorem dX12_isWord_43 : decode cX12_isWord 43 = .ok (.iload 5, 2) := by decide +kernel
theorem dX12_isWord_45 : decode cX12_isWord 45 = .ok (.iadd, 1) := by decide +kernel
theorem dX12_isWord_46 : decode cX12_isWord 46 = .ok (.baload, 1) := by decide +kernel
theorem dX12_isWord_47 : decode cX12_isWord 47 = .ok (.i2l, 1) := by decide +kernel
theorem dX12_isWord_48 : decode cX12_isWord 48 = .ok (.lor, 1) := by decide +kernel
theorem dX12_isWord_49 : decode cX12_isWord 49 = .ok (.lstore_n 3, 1) := by decide +kernel
theorem dX12_isWord_50 : decode cX12_isWord 50 = .ok (.iinc 5 1, 3) := by decide +kernel
theorem dX12_isWord_53 : decode cX12_isWord 53 = .ok (.goto (-43), 3) := by decide +kernel
theorem dX12_isWord_56 : decode cX12_isWord 56 = .ok (.iload 5, 2) := by decide +kernel
theorem dX12_isWord_58 : decode cX12_isWord 58 = .ok (.ifCond .le 20, 3) := by decide +kernel
theorem dX12_isWord_61 : decode cX12_isWord 61 = .ok (.iload 5, 2) := by decide +kernel
theorem dX12_isWord_63 : decode cX12_isWord 63 = .ok (.bipush 9, 2) := by decide +kernel
theorem dX12_isWord_65 : decode cX12_isWord 65 = .ok (.if_icmp .ge 13, 3) := by decide +kernel
theorem dX12_isWord_68 : decode cX12_isWord 68 = .ok (.lload_n 3, 1) := by decide +kernel
theorem dX12_isWord_69 : decode cX12_isWord 69 = .ok (.lload_n 1, 1) := by decide +kernel
theorem dX12_isWord_70 : decode cX12_isWord 70 = .ok (.lcmp, 1) := by decide +kernel
theorem dX12_isWord_71 : decode cX12_isWord 71 = .ok (.ifCond .ne 7, 3) := by decide +kernel
theorem dX12_isWord_74 : decode cX12_isWord 74 = .ok (.iconst 1, 1) := by decide +kernel
theorem dX12_isWord_75 : decode cX12_isWord 75 = .ok (.goto 4, 3) := by decide +kernel
theorem dX12_isWord_78 : decode cX12_isWord 78 = .ok (.iconst 0, 1) := by decide +kernel
theorem dX12_isWord_79 : decode cX12_isWord 79 = .ok (.ireturn, 1) := by decide +kernel
theorem dX12_passWord_0 : decode cX12_passWord 0 = .ok (.aload_n 0, 1) := by decide +kernel
theorem dX12_passWord_1 : decode cX12_passWord 1 = .ok (.aload_n 0, 1) := by decide +kernel
theorem dX12_passWord_2 : decode cX12_passWord 2 = .ok (.getfield 114, 3) := by decide +kernel
theorem dX12_passWord_5 : decode cX12_passWord 5 = .ok (.invokevirtual 121, 3) := by decide +kernel
theorem dX12_passWord_8 : decode cX12_passWord 8 = .ok (.ifCond .eq 16, 3) := by decide +kernel
theorem dX12_passWord_11 : decode cX12_passWord 11 = .ok (.aload_n 0, 1) := by decide +kernel
theorem dX12_passWord_12 : decode cX12_passWord 12 = .ok (.dup, 1) := by decide +kernel
theorem dX12_passWord_13 : decode cX12_passWord 13 = .ok (.getfield 114, 3) := by decide +kernel
theorem dX12_passWord_16 : decode cX12_passWord 16 = .ok (.iconst 1, 1) := by decide +kernel
theorem dX12_passWord_17 : decode cX12_passWord 17 = .ok (.iadd, 1) := by decide +kernel
theorem dX12_passWord_18 : decode cX12_passWord 18 = .ok (.putfield 114, 3) := by decide +kernel
theorem dX12_passWord_21 : decode cX12_passWord 21 = .ok (.goto (-21), 3) := by decide +kernel
theorem dX12_passWord_24 : decode cX12_passWord 24 = .ok (.return_, 1) := by decide +kernel
theorem dX12_takesWord_0 : decode cX12_takesWord 0 = .ok (.aload_n 0, 1) := by decide +kernel
theorem dX12_takesWord_1 : decode cX12_takesWord 1 = .ok (.lload_n 1, 1) := by decide +kernel
theorem dX12_takesWord_2 : decode cX12_takesWord 2 = .ok (.invokevirtual 125, 3) := by decide +kernel
theorem dX12_takesWord_5 : decode cX12_takesWord 5 = .ok (.ifCond .ne 5, 3) := by decide +kernel
theorem dX12_takesWord_8 : decode cX12_takesWord 8 = .ok (.iconst 0, 1) := by decide +kernel
theorem dX12_takesWord_9 : decode cX12_takesWord 9 = .ok (.ireturn, 1) := by decide +kernel
theorem dX12_takesWord_10 : decode cX12_takesWord 10 = .ok (.aload_n 0, 1) := by decide +kernel
theorem dX12_takesWord_11 : decode cX12_takesWord 11 = .ok (.invokevirtual 129, 3) := by decide +kernel
theorem dX12_takesWord_14 : decode cX12_takesWord 14 = .ok (.iconst 1, 1) := by decide +kernel
theorem dX12_takesWord_15 : decode cX12_takesWord 15 = .ok (.ireturn, 1) := by decide +kernel
theorem dX12_numberHere_0 : decode cX12_numberHere 0 = .ok (.aload_n 0, 1) := by decide +kernel
theorem dX12_numberHere_1 : decode cX12_numberHere 1 = .ok (.invokevirtual 117, 3) := by decide +kernel
theorem dX12_numberHere_4 : decode cX12_numberHere 4 = .ok (.pop, 1) := by decide +kernel
theorem dX12_numberHere_5 : decode cX12_numberHere 5 = .ok (.aload_n 0, 1) := by decide +kernel
theorem dX12_numberHere_6 : decode cX12_numberHere 6 = .ok (.aload_n 0, 1) := by decide +kernel
theorem dX12_numberHere_7 : decode cX12_numberHere 7 = .ok (.getfield 114, 3) := by decide +kernel
theorem dX12_numberHere_10 : decode cX12_numberHere 10 = .ok (.invokevirtual 132, 3) := by decide +kernel
theorem dX12_numberHere_13 : decode cX12_numberHere 13 = .ok (.ifCond .ne 13, 3) := by decide +kernel
theorem dX12_numberHere_16 : decode cX12_numberHere 16 = .ok (.aload_n 0, 1) := by decide +kernel
theorem dX12_numberHere_17 : decode cX12_numberHere 17 = .ok (.iconst 0, 1) := by decide +kernel
theorem dX12_numberHere_18 : decode cX12_numberHere 18 = .ok (.aload_n 0, 1) := by decide +kernel
theorem dX12_numberHere_19 : decode cX12_numberHere 19 = .ok (.getfield 114, 3) := by decide +kernel
theorem dX12_numberHere_22 : decode cX12_numberHere 22 = .ok (.invokevirtual 135, 3) := by decide +kernel
theorem dX12_numberHere_25 : decode cX12_numberHere 25 = .ok (.ireturn, 1) := by decide +kernel
theorem dX12_numberHere_26 : decode cX12_numberHere 26 = .ok (.aload_n 0, 1) := by decide +kernel
theorem dX12_numberHere_27 : decode cX12_numberHere 27 = .ok (.getfield 114, 3) := by decide +kernel
theorem dX12_numberHere_30 : decode cX12_numberHere 30 = .ok (.istore_n 3, 1) := by decide +kernel
theorem dX12_numberHere_31 : decode cX12_numberHere 31 = .ok (.iconst 0, 1) := by decide +kernel
theorem dX12_numberHere_32 : decode cX12_numberHere 32 = .ok (.istore 4, 2) := by decide +kernel
theorem dX12_numberHere_34 : decode cX12_numberHere 34 = .ok (.aload_n 0, 1) := by decide +kernel
theorem dX12_numberHere_35 : decode cX12_numberHere 35 = .ok (.aload_n 0, 1) := by decide +kernel
theorem dX12_numberHere_36 : decode cX12_numberHere 36 = .ok (.getfield 114, 3) := by decide +kernel
theorem dX12_numberHere_39 : decode cX12_numberHere 39 = .ok (.invokevirtual 132, 3) := by decide +kernel
theorem dX12_numberHere_42 : decode cX12_numberHere 42 = .ok (.ifCond .eq 46, 3) := by decide +kernel
theorem dX12_numberHere_45 : decode cX12_numberHere 45 = .ok (.aload_n 0, 1) := by decide +kernel
theorem dX12_numberHere_46 : decode cX12_numberHere 46 = .ok (.getfield 114, 3) := by decide +kernel
theorem dX12_numberHere_49 : decode cX12_numberHere 49 = .ok (.iload_n 3, 1) := by decide +kernel
theorem dX12_numberHere_50 : decode cX12_numberHere 50 = .ok (.isub, 1) := by decide +kernel
theorem dX12_numberHere_51 : decode cX12_numberHere 51 = .ok (.iconst 5, 1) := by decide +kernel
theorem dX12_numberHere_52 : decode cX12_numberHere 52 = .ok (.if_icmp .ge 23, 3) := by decide +kernel
theorem dX12_numberHere_55 : decode cX12_numberHere 55 = .ok (.bipush 10, 2) := by decide +kernel
theorem dX12_numberHere_57 : decode cX12_numberHere 57 = .ok (.iload 4, 2) := by decide +kernel
theorem dX12_numberHere_59 : decode cX12_numberHere 59 = .ok (.imul, 1) := by decide +kernel
theorem dX12_numberHere_60 : decode cX12_numberHere 60 = .ok (.aload_n 0, 1) := by decide +kernel
theorem dX12_numberHere_61 : decode cX12_numberHere 61 = .ok (.getfield 7, 3) := by decide +kernel
theorem dX12_numberHere_64 : decode cX12_numberHere 64 = .ok (.aload_n 0, 1) := by decide +kernel
theorem dX12_numberHere_65 : decode cX12_numberHere 65 = .ok (.getfield 114, 3) := by decide +kernel
theorem dX12_numberHere_68 : decode cX12_numberHere 68 = .ok (.baload, 1) := by decide +kernel
theorem dX12_numberHere_69 : decode cX12_numberHere 69 = .ok (.iadd, 1) := by decide +kernel
theorem dX12_numberHere_70 : decode cX12_numberHere 70 = .ok (.bipush 48, 2) := by decide +kernel
theorem dX12_numberHere_72 : decode cX12_numberHere 72 = .ok (.isub, 1) := by decide +kernel
theorem dX12_numberHere_73 : decode cX12_numberHere 73 = .ok (.istore 4, 2) := by decide +kernel
theorem dX12_numberHere_75 : decode cX12_numberHere 75 = .ok (.aload_n 0, 1) := by decide +kernel
theorem dX12_numberHere_76 : decode cX12_numberHere 76 = .ok (.dup, 1) := by decide +kernel
theorem dX12_numberHere_77 : decode cX12_numberHere 77 = .ok (.getfield 114, 3) := by decide +kernel
theorem dX12_numberHere_80 : decode cX12_numberHere 80 = .ok (.iconst 1, 1) := by decide +kernel
theorem dX12_numberHere_81 : decode cX12_numberHere 81 = .ok (.iadd, 1) := by decide +kernel
theorem dX12_numberHere_82 : decode cX12_numberHere 82 = .ok (.putfield 114, 3) := by decide +kernel
theorem dX12_numberHere_85 : decode cX12_numberHere 85 = .ok (.goto (-51), 3) := by decide +kernel
theorem dX12_numberHere_88 : decode cX12_numberHere 88 = .ok (.aload_n 0, 1) := by decide +kernel
theorem dX12_numberHere_89 : decode cX12_numberHere 89 = .ok (.iload 4, 2) := by decide +kernel
theorem dX12_numberHere_91 : decode cX12_numberHere 91 = .ok (.putfield 139, 3) := by decide +kernel
theorem dX12_numberHere_94 : decode cX12_numberHere 94 = .ok (.aload_n 0, 1) := by decide +kernel
theorem dX12_numberHere_95 : decode cX12_numberHere 95 = .ok (.getfield 114, 3) := by decide +kernel
theorem dX12_numberHere_98 : decode cX12_numberHere 98 = .ok (.iload_n 3, 1) := by decide +kernel
theorem dX12_numberHere_99 : decode cX12_numberHere 99 = .ok (.isub, 1) := by decide +kernel
theorem dX12_numberHere_100 : decode cX12_numberHere 100 = .ok (.iconst 5, 1) := by decide +kernel
theorem dX12_numberHere_101 : decode cX12_numberHere 101 = .ok (.if_icmp .gt 16, 3) := by decide +kernel
theorem dX12_numberHere_104 : decode cX12_numberHere 104 = .ok (.iload 4, 2) := by decide +kernel
theorem dX12_numberHere_106 : decode cX12_numberHere 106 = .ok (.i2l, 1) := by decide +kernel
theorem dX12_numberHere_107 : decode cX12_numberHere 107 = .ok (.iload_n 1, 1) := by decide +kernel
theorem dX12_numberHere_108 : decode cX12_numberHere 108 = .ok (.i2l, 1) := by decide +kernel
theorem dX12_numberHere_109 : decode cX12_numberHere 109 = .ok (.iload_n 2, 1) := by decide +kernel
theorem dX12_numberHere_110 : decode cX12_numberHere 110 = .ok (.i2l, 1) := by decide +kernel
theorem dX12_numberHere_111 : decode cX12_numberHere 111 = .ok (.invokestatic 142, 3) := by decide +kernel
theorem dX12_numberHere_114 : decode cX12_numberHere 114 = .ok (.ifCond .ne 12, 3) := by decide +kernel
theorem dX12_numberHere_117 : decode cX12_numberHere 117 = .ok (.aload_n 0, 1) := by decide +kernel
theorem dX12_numberHere_118 : decode cX12_numberHere 118 = .ok (.iconst 1, 1) := by decide +kernel
theorem dX12_numberHere_119 : decode cX12_numberHere 119 = .ok (.iload_n 3, 1) := by decide +kernel
theorem dX12_numberHere_120 : decode cX12_numberHere 120 = .ok (.invokevirtual 135, 3) := by decide +kernel
theorem dX12_numberHere_123 : decode cX12_numberHere 123 = .ok (.ifCond .eq 7, 3) := by decide +kernel
theorem dX12_numberHere_126 : decode cX12_numberHere 126 = .ok (.iconst 1, 1) := by decide +kernel
theorem dX12_numberHere_127 : decode cX12_numberHere 127 = .ok (.goto 4, 3) := by decide +kernel
theorem dX12_numberHere_130 : decode cX12_numberHere 130 = .ok (.iconst 0, 1) := by decide +kernel
theorem dX12_numberHere_131 : decode cX12_numberHere 131 = .ok (.ireturn, 1) := by decide +kernel
theorem dX12_wordHere_0 : decode cX12_wordHere 0 = .ok (.aload_n 0, 1) := by decide +kernel
theorem dX12_wordHere_1 : decode cX12_wordHere 1 = .ok (.ldc2_w 146, 3) := by decide +kernel
theorem dX12_wordHere_4 : decode cX12_wordHere 4 = .ok (.invokevirtual 125, 3) := by decide +kernel
theorem dX12_wordHere_7 : decode cX12_wordHere 7 = .ok (.ifCond .eq 5, 3) := by decide +kernel
theorem dX12_wordHere_10 : decode cX12_wordHere 10 = .ok (.iconst 0, 1) := by decide +kernel
theorem dX12_wordHere_11 : decode cX12_wordHere 11 = .ok (.ireturn, 1) := by decide +kernel
theorem dX12_wordHere_12 : decode cX12_wordHere 12 = .ok (.aload_n 0, 1) := by decide +kernel
theorem dX12_wordHere_13 : decode cX12_wordHere 13 = .ok (.ldc2_w 148, 3) := by decide +kernel
theorem dX12_wordHere_16 : decode cX12_wordHere 16 = .ok (.invokevirtual 125, 3) := by decide +kernel
theorem dX12_wordHere_19 : decode cX12_wordHere 19 = .ok (.ifCond .eq 5, 3) := by decide +kernel
theorem dX12_wordHere_22 : decode cX12_wordHere 22 = .ok (.iconst 1, 1) := by decide +kernel
theorem dX12_wordHere_23 : decode cX12_wordHere 23 = .ok (.ireturn, 1) := by decide +kernel
theorem dX12_wordHere_24 : decode cX12_wordHere 24 = .ok (.aload_n 0, 1) := by decide +kernel
theorem dX12_wordHere_25 : decode cX12_wordHere 25 = .ok (.ldc2_w 150, 3) := by decide +kernel
theorem dX12_wordHere_28 : decode cX12_wordHere 28 = .ok (.invokevirtual 125, 3) := by decide +kernel
theorem dX12_wordHere_31 : decode cX12_wordHere 31 = .ok (.ifCond .eq 5, 3) := by decide +kernel
theorem dX12_wordHere_34 : decode cX12_wordHere 34 = .ok (.iconst 2, 1) := by decide +kernel
theorem dX12_wordHere_35 : decode cX12_wordHere 35 = .ok (.ireturn, 1) := by decide +kernel
theorem dX12_wordHere_36 : decode cX12_wordHere 36 = .ok (.aload_n 0, 1) := by decide +kernel
theorem dX12_wordHere_37 : decode cX12_wordHere 37 = .ok (.ldc2_w 152, 3) := by decide +kernel
theorem dX12_wordHere_40 : decode cX12_wordHere 40 = .ok (.invokevirtual 125, 3) := by decide +kernel
theorem dX12_wordHere_43 : decode cX12_wordHere 43 = .ok (.ifCond .eq 5, 3) := by decide +kernel
theorem dX12_wordHere_46 : decode cX12_wordHere 46 = .ok (.iconst 3, 1) := by decide +kernel
theorem dX12_wordHere_47 : decode cX12_wordHere 47 = .ok (.ireturn, 1) := by decide +kernel
theorem dX12_wordHere_48 : decode cX12_wordHere 48 = .ok (.aload_n 0, 1) := by decide +kernel
theorem dX12_wordHere_49 : decode cX12_wordHere 49 = .ok (.ldc2_w 154, 3) := by decide +kernel
theorem dX12_wordHere_52 : decode cX12_wordHere 52 = .ok (.invokevirtual 125, 3) := by decide +kernel
theorem dX12_wordHere_55 : decode cX12_wordHere 55 = .ok (.ifCond .eq 5, 3) := by decide +kernel
theorem dX12_wordHere_58 : decode cX12_wordHere 58 = .ok (.iconst 4, 1) := by decide +kernel
theorem dX12_wordHere_59 : decode cX12_wordHere 59 = .ok (.ireturn, 1) := by decide +kernel
theorem dX12_wordHere_60 : decode cX12_wordHere 60 = .ok (.aload_n 0, 1) := by decide +kernel
theorem dX12_wordHere_61 : decode cX12_wordHere 61 = .ok (.ldc2_w 156, 3) := by decide +kernel
theorem dX12_wordHere_64 : decode cX12_wordHere 64 = .ok (.invokevirtual 125, 3) := by decide +kernel
theorem dX12_wordHere_67 : decode cX12_wordHere 67 = .ok (.ifCond .eq 5, 3) := by decide +kernel
theorem dX12_wordHere_70 : decode cX12_wordHere 70 = .ok (.iconst 5, 1) := by decide +kernel
theorem dX12_wordHere_71 : decode cX12_wordHere 71 = .ok (.ireturn, 1) := by decide +kernel
theorem dX12_wordHere_72 : decode cX12_wordHere 72 = .ok (.aload_n 0, 1) := by decide +kernel
theorem dX12_wordHere_73 : decode cX12_wordHere 73 = .ok (.ldc2_w 158, 3) := by decide +kernel
theorem dX12_wordHere_76 : decode cX12_wordHere 76 = .ok (.invokevirtual 125, 3) := by decide +kernel
theorem dX12_wordHere_79 : decode cX12_wordHere 79 = .ok (.ifCond .eq 6, 3) := by decide +kernel
theorem dX12_wordHere_82 : decode cX12_wordHere 82 = .ok (.bipush 6, 2) := by decide +kernel
theorem dX12_wordHere_84 : decode cX12_wordHere 84 = .ok (.ireturn, 1) := by decide +kernel
theorem dX12_wordHere_85 : decode cX12_wordHere 85 = .ok (.aload_n 0, 1) := by decide +kernel
theorem dX12_wordHere_86 : decode cX12_wordHere 86 = .ok (.ldc2_w 160, 3) := by decide +kernel
theorem dX12_wordHere_89 : decode cX12_wordHere 89 = .ok (.invokevirtual 125, 3) := by decide +kernel
theorem dX12_wordHere_92 : decode cX12_wordHere 92 = .ok (.ifCond .eq 6, 3) := by decide +kernel
theorem dX12_wordHere_95 : decode cX12_wordHere 95 = .ok (.bipush 7, 2) := by decide +kernel
theorem dX12_wordHere_97 : decode cX12_wordHere 97 = .ok (.ireturn, 1) := by decide +kernel
theorem dX12_wordHere_98 : decode cX12_wordHere 98 = .ok (.aload_n 0, 1) := by decide +kernel
theorem dX12_wordHere_99 : decode cX12_wordHere 99 = .ok (.ldc2_w 162, 3) := by decide +kernel
theorem dX12_wordHere_102 : decode cX12_wordHere 102 = .ok (.invokevirtual 125, 3) := by decide +kernel
theorem dX12_wordHere_105 : decode cX12_wordHere 105 = .ok (.ifCond .eq 6, 3) := by decide +kernel
theorem dX12_wordHere_108 : decode cX12_wordHere 108 = .ok (.bipush 8, 2) := by decide +kernel
theorem dX12_wordHere_110 : decode cX12_wordHere 110 = .ok (.ireturn, 1) := by decide +kernel
theorem dX12_wordHere_111 : decode cX12_wordHere 111 = .ok (.aload_n 0, 1) := by decide +kernel
theorem dX12_wordHere_112 : decode cX12_wordHere 112 = .ok (.ldc2_w 164, 3) := by decide +kernel
theorem dX12_wordHere_115 : decode cX12_wordHere 115 = .ok (.invokevirtual 125, 3) := by decide +kernel
theorem dX12_wordHere_118 : decode cX12_wordHere 118 = .ok (.ifCond .eq 6, 3) := by decide +kernel
theorem dX12_wordHere_121 : decode cX12_wordHere 121 = .ok (.bipush 9, 2) := by decide +kernel
theorem dX12_wordHere_123 : decode cX12_wordHere 123 = .ok (.ireturn, 1) := by decide +kernel
theorem dX12_wordHere_124 : decode cX12_wordHere 124 = .ok (.aload_n 0, 1) := by decide +kernel
theorem dX12_wordHere_125 : decode cX12_wordHere 125 = .ok (.ldc2_w 166, 3) := by decide +kernel
theorem dX12_wordHere_128 : decode cX12_wordHere 128 = .ok (.invokevirtual 125, 3) := by decide +kernel
theorem dX12_wordHere_131 : decode cX12_wordHere 131 = .ok (.ifCond .eq 8, 3) := by decide +kernel
theorem dX12_wordHere_134 : decode cX12_wordHere 134 = .ok (.bipush 10, 2) := by decide +kernel
theorem dX12_wordHere_136 : decode cX12_wordHere 136 = .ok (.goto 19, 3) := by decide +kernel
theorem dX12_wordHere_139 : decode cX12_wordHere 139 = .ok (.aload_n 0, 1) := by decide +kernel
theorem dX12_wordHere_140 : decode cX12_wordHere 140 = .ok (.ldc2_w 168, 3) := by decide +kernel
theorem dX12_wordHere_143 : decode cX12_wordHere 143 = .ok (.invokevirtual 125, 3) := by decide +kernel
theorem dX12_wordHere_146 : decode cX12_wordHere 146 = .ok (.ifCond .eq 8, 3) := by decide +kernel
theorem dX12_wordHere_149 : decode cX12_wordHere 149 = .ok (.bipush 11, 2) := by decide +kernel
theorem dX12_wordHere_151 : decode cX12_wordHere 151 = .ok (.goto 4, 3) := by decide +kernel
theorem dX12_wordHere_154 : decode cX12_wordHere 154 = .ok (.iconst (-1), 1) := by decide +kernel
theorem dX12_wordHere_155 : decode cX12_wordHere 155 = .ok (.ireturn, 1) := by decide +kernel
theorem dX12_puts_0 : decode cX12_puts 0 = .ok (.aload_n 0, 1) := by decide +kernel
theorem dX12_puts_1 : decode cX12_puts 1 = .ok (.getfield 13, 3) := by decide +kernel
theorem dX12_puts_4 : decode cX12_puts 4 = .ok (.sipush 400, 3) := by decide +kernel
theorem dX12_puts_7 : decode cX12_puts 7 = .ok (.aload_n 0, 1) := by decide +kernel
theorem dX12_puts_8 : decode cX12_puts 8 = .ok (.getfield 170, 3) := by decide +kernel
theorem dX12_puts_11 : decode cX12_puts 11 = .ok (.imul, 1) := by decide +kernel
theorem dX12_puts_12 : decode cX12_puts 12 = .ok (.aload_n 0, 1) := by decide +kernel
theorem dX12_puts_13 : decode cX12_puts 13 = .ok (.getfield 17, 3) := by decide +kernel
theorem dX12_puts_16 : decode cX12_puts 16 = .ok (.aload_n 0, 1) := by decide +kernel
theorem dX12_puts_17 : decode cX12_puts 17 = .ok (.getfield 170, 3) := by decide +kernel
theorem dX12_puts_20 : decode cX12_puts 20 = .ok (.iaload, 1) := by decide +kernel
theorem dX12_puts_21 : decode cX12_puts 21 = .ok (.iadd, 1) := by decide +kernel
theorem dX12_puts_22 : decode cX12_puts 22 = .ok (.iload_n 1, 1) := by decide +kernel
theorem dX12_puts_23 : decode cX12_puts 23 = .ok (.bipush 16, 2) := by decide +kernel
theorem dX12_puts_25 : decode cX12_puts 25 = .ok (.iload_n 2, 1) := by decide +kernel
theorem dX12_puts_26 : decode cX12_puts 26 = .ok (.imul, 1) := by decide +kernel
theorem dX12_puts_27 : decode cX12_puts 27 = .ok (.iadd, 1) := by decide +kernel
theorem dX12_puts_28 : decode cX12_puts 28 = .ok (.iastore, 1) := by decide +kernel
theorem dX12_puts_29 : decode cX12_puts 29 = .ok (.aload_n 0, 1) := by decide +kernel
theorem dX12_puts_30 : decode cX12_puts 30 = .ok (.getfield 17, 3) := by decide +kernel
theorem dX12_puts_33 : decode cX12_puts 33 = .ok (.aload_n 0, 1) := by decide +kernel
theorem dX12_puts_34 : decode cX12_puts 34 = .ok (.getfield 170, 3) := by decide +kernel
theorem dX12_puts_37 : decode cX12_puts 37 = .ok (.dup2, 1) := by decide +kernel
theorem dX12_puts_38 : decode cX12_puts 38 = .ok (.iaload, 1) := by decide +kernel
theorem dX12_puts_39 : decode cX12_puts 39 = .ok (.iconst 1, 1) := by decide +kernel
theorem dX12_puts_40 : decode cX12_puts 40 = .ok (.iadd, 1) := by decide +kernel
theorem dX12_puts_41 : decode cX12_puts 41 = .ok (.iastore, 1) := by decide +kernel
theorem dX12_puts_42 : decode cX12_puts 42 = .ok (.return_, 1) := by decide +kernel
theorem dX12_makes_0 : decode cX12_makes 0 = .ok (.aload_n 0, 1) := by decide +kernel
theorem dX12_makes_1 : decode cX12_makes 1 = .ok (.getfield 173, 3) := by decide +kernel
theorem dX12_makes_4 : decode cX12_makes 4 = .ok (.bipush 60, 2) := by decide +kernel
theorem dX12_makes_6 : decode cX12_makes 6 = .ok (.if_icmp .ne 10, 3) := by decide +kernel
theorem dX12_makes_9 : decode cX12_makes 9 = .ok (.aload_n 0, 1) := by decide +kernel
theorem dX12_makes_10 : decode cX12_makes 10 = .ok (.iconst 3, 1) := by decide +kernel
theorem dX12_makes_11 : decode cX12_makes 11 = .ok (.iload_n 1, 1) := by decide +kernel
theorem dX12_makes_12 : decode cX12_makes 12 = .ok (.invokevirtual 135, 3) := by decide +kernel
theorem dX12_makes_15 : decode cX12_makes 15 = .ok (.ireturn, 1) := by decide +kernel
theorem dX12_makes_16 : decode cX12_makes 16 = .ok (.aload_n 0, 1) := by decide +kernel
theorem dX12_makes_17 : decode cX12_makes 17 = .ok (.dup, 1) := by decide +kernel
theorem dX12_makes_18 : decode cX12_makes 18 = .ok (.getfield 173, 3) := by decide +kernel
theorem dX12_makes_21 : decode cX12_makes 21 = .ok (.iconst 1, 1) := by decide +kernel
theorem dX12_makes_22 : decode cX12_makes 22 = .ok (.iadd, 1) := by decide +kernel
theorem dX12_makes_23 : decode cX12_makes 23 = .ok (.putfield 173, 3) := by decide +kernel
theorem dX12_makes_26 : decode cX12_makes 26 = .ok (.iconst 1, 1) := by decide +kernel
theorem dX12_makes_27 : decode cX12_makes 27 = .ok (.ireturn, 1) := by decide +kernel
theorem dX12_opens_0 : decode cX12_opens 0 = .ok (.aload_n 0, 1) := by decide +kernel
theorem dX12_opens_1 : decode cX12_opens 1 = .ok (.getfield 176, 3) := by decide +kernel
theorem dX12_opens_4 : decode cX12_opens 4 = .ok (.bipush 10, 2) := by decide +kernel
theorem dX12_opens_6 : decode cX12_opens 6 = .ok (.if_icmp .ne 13, 3) := by decide +kernel
theorem dX12_opens_9 : decode cX12_opens 9 = .ok (.aload_n 0, 1) := by decide +kernel
theorem dX12_opens_10 : decode cX12_opens 10 = .ok (.iconst 2, 1) := by decide +kernel
theorem dX12_opens_11 : decode cX12_opens 11 = .ok (.aload_n 0, 1) := by decide +kernel
theorem dX12_opens_12 : decode cX12_opens 12 = .ok (.getfield 114, 3) := by decide +kernel
theorem dX12_opens_15 : decode cX12_opens 15 = .ok (.invokevirtual 135, 3) := by decide +kernel
theorem dX12_opens_18 : decode cX12_opens 18 = .ok (.ireturn, 1) := by decide +kernel
theorem dX12_opens_19 : decode cX12_opens 19 = .ok (.aload_n 0, 1) := by decide +kernel
theorem dX12_opens_20 : decode cX12_opens 20 = .ok (.dup, 1) := by decide +kernel
theorem dX12_opens_21 : decode cX12_opens 21 = .ok (.getfield 176, 3) := by decide +kernel
theorem dX12_opens_24 : decode cX12_opens 24 = .ok (.iconst 1, 1) := by decide +kernel
theorem dX12_opens_25 : decode cX12_opens 25 = .ok (.iadd, 1) := by decide +kernel
theorem dX12_opens_26 : decode cX12_opens 26 = .ok (.putfield 176, 3) := by decide +kernel
theorem dX12_opens_29 : decode cX12_opens 29 = .ok (.aload_n 0, 1) := by decide +kernel
theorem dX12_opens_30 : decode cX12_opens 30 = .ok (.getfield 29, 3) := by decide +kernel
theorem dX12_opens_33 : decode cX12_opens 33 = .ok (.aload_n 0, 1) := by decide +kernel
theorem dX12_opens_34 : decode cX12_opens 34 = .ok (.getfield 179, 3) := by decide +kernel
theorem dX12_opens_37 : decode cX12_opens 37 = .ok (.iload_n 1, 1) := by decide +kernel
theorem dX12_opens_38 : decode cX12_opens 38 = .ok (.iastore, 1) := by decide +kernel
theorem dX12_opens_39 : decode cX12_opens 39 = .ok (.aload_n 0, 1) := by decide +kernel
theorem dX12_opens_40 : decode cX12_opens 40 = .ok (.dup, 1) := by decide +kernel
theorem dX12_opens_41 : decode cX12_opens 41 = .ok (.getfield 179, 3) := by decide +kernel
theorem dX12_opens_44 : decode cX12_opens 44 = .ok (.iconst 1, 1) := by decide +kernel
theorem dX12_opens_45 : decode cX12_opens 45 = .ok (.iadd, 1) := by decide +kernel
theorem dX12_opens_46 : decode cX12_opens 46 = .ok (.putfield 179, 3) := by decide +kernel
theorem dX12_opens_49 : decode cX12_opens 49 = .ok (.iconst 1, 1) := by decide +kernel
theorem dX12_opens_50 : decode cX12_opens 50 = .ok (.ireturn, 1) := by decide +kernel
theorem dX12_strength_0 : decode cX12_strength 0 = .ok (.iload_n 0, 1) := by decide +kernel
theorem dX12_strength_1 : decode cX12_strength 1 = .ok (.bipush 13, 2) := by decide +kernel
theorem dX12_strength_3 : decode cX12_strength 3 = .ok (.if_icmp .ne 7, 3) := by decide +kernel
theorem dX12_strength_6 : decode cX12_strength 6 = .ok (.iconst 1, 1) := by decide +kernel
theorem dX12_strength_7 : decode cX12_strength 7 = .ok (.goto 24, 3) := by decide +kernel
theorem dX12_strength_10 : decode cX12_strength 10 = .ok (.iload_n 0, 1) := by decide +kernel
theorem dX12_strength_11 : decode cX12_strength 11 = .ok (.bipush 12, 2) := by decide +kernel
theorem dX12_strength_13 : decode cX12_strength 13 = .ok (.if_icmp .ne 7, 3) := by decide +kernel
theorem dX12_strength_16 : decode cX12_strength 16 = .ok (.iconst 2, 1) := by decide +kernel
theorem dX12_strength_17 : decode cX12_strength 17 = .ok (.goto 14, 3) := by decide +kernel
theorem dX12_strength_20 : decode cX12_strength 20 = .ok (.iload_n 0, 1) := by decide +kernel
theorem dX12_strength_21 : decode cX12_strength 21 = .ok (.bipush 11, 2) := by decide +kernel
theorem dX12_strength_23 : decode cX12_strength 23 = .ok (.if_icmp .ne 7, 3) := by decide +kernel
theorem dX12_strength_26 : decode cX12_strength 26 = .ok (.iconst 3, 1) := by decide +kernel
theorem dX12_strength_27 : decode cX12_strength 27 = .ok (.goto 4, 3) := by decide +kernel
theorem dX12_strength_30 : decode cX12_strength 30 = .ok (.iconst 0, 1) := by decide +kernel
theorem dX12_strength_31 : decode cX12_strength 31 = .ok (.ireturn, 1) := by decide +kernel
theorem dX12_settles_0 : decode cX12_settles 0 = .ok (.aload_n 0, 1) := by decide +kernel
theorem dX12_settles_1 : decode cX12_settles 1 = .ok (.getfield 179, 3) := by decide +kernel
theorem dX12_settles_4 : decode cX12_settles 4 = .ok (.ifCond .le 72, 3) := by decide +kernel
theorem dX12_settles_7 : decode cX12_settles 7 = .ok (.aload_n 0, 1) := by decide +kernel
theorem dX12_settles_8 : decode cX12_settles 8 = .ok (.getfield 29, 3) := by decide +kernel
theorem dX12_settles_11 : decode cX12_settles 11 = .ok (.aload_n 0, 1) := by decide +kernel
theorem dX12_settles_12 : decode cX12_settles 12 = .ok (.getfield 179, 3) := by decide +kernel
theorem dX12_settles_15 : decode cX12_settles 15 = .ok (.iconst 1, 1) := by decide +kernel
theorem dX12_settles_16 : decode cX12_settles 16 = .ok (.isub, 1) := by decide +kernel
theorem dX12_settles_17 : decode cX12_settles 17 = .ok (.iaload, 1) := by decide +kernel
theorem dX12_settles_18 : decode cX12_settles 18 = .ok (.invokestatic 182, 3) := by decide +kernel
theorem dX12_settles_21 : decode cX12_settles 21 = .ok (.iload_n 1, 1) := by decide +kernel
theorem dX12_settles_22 : decode cX12_settles 22 = .ok (.if_icmp .lt 54, 3) := by decide +kernel
theorem dX12_settles_25 : decode cX12_settles 25 = .ok (.aload_n 0, 1) := by decide +kernel
theorem dX12_settles_26 : decode cX12_settles 26 = .ok (.dup, 1) := by decide +kernel
theorem dX12_settles_27 : decode cX12_settles 27 = .ok (.getfield 179, 3) := by decide +kernel
theorem dX12_settles_30 : decode cX12_settles 30 = .ok (.iconst 1, 1) := by decide +kernel
theorem dX12_settles_31 : decode cX12_settles 31 = .ok (.isub, 1) := by decide +kernel
theorem dX12_settles_32 : decode cX12_settles 32 = .ok (.putfield 179, 3) := by decide +kernel
theorem dX12_settles_35 : decode cX12_settles 35 = .ok (.aload_n 0, 1) := by decide +kernel
theorem dX12_settles_36 : decode cX12_settles 36 = .ok (.aload_n 0, 1) := by decide +kernel
theorem dX12_settles_37 : decode cX12_settles 37 = .ok (.getfield 29, 3) := by decide +kernel
theorem dX12_settles_40 : decode cX12_settles 40 = .ok (.aload_n 0, 1) := by decide +kernel
theorem dX12_settles_41 : decode cX12_settles 41 = .ok (.getfield 179, 3) := by decide +kernel
theorem dX12_settles_44 : decode cX12_settles 44 = .ok (.iaload, 1) := by decide +kernel
theorem dX12_settles_45 : decode cX12_settles 45 = .ok (.iconst 0, 1) := by decide +kernel
theorem dX12_settles_46 : decode cX12_settles 46 = .ok (.invokevirtual 186, 3) := by decide +kernel
theorem dX12_settles_49 : decode cX12_settles 49 = .ok (.aload_n 0, 1) := by decide +kernel
theorem dX12_settles_50 : decode cX12_settles 50 = .ok (.getfield 29, 3) := by decide +kernel
theorem dX12_settles_53 : decode cX12_settles 53 = .ok (.aload_n 0, 1) := by decide +kernel
theorem dX12_settles_54 : decode cX12_settles 54 = .ok (.getfield 179, 3) := by decide +kernel
theorem dX12_settles_57 : decode cX12_settles 57 = .ok (.iaload, 1) := by decide +kernel
theorem dX12_settles_58 : decode cX12_settles 58 = .ok (.bipush 11, 2) := by decide +kernel
theorem dX12_settles_60 : decode cX12_settles 60 = .ok (.if_icmp .ne (-60), 3) := by decide +kernel
theorem dX12_settles_63 : decode cX12_settles 63 = .ok (.aload_n 0, 1) := by decide +kernel
theorem dX12_settles_64 : decode cX12_settles 64 = .ok (.dup, 1) := by decide +kernel
theorem dX12_settles_65 : decode cX12_settles 65 = .ok (.getfield 176, 3) := by decide +kernel
theorem dX12_settles_68 : decode cX12_settles 68 = .ok (.iconst 1, 1) := by decide +kernel
theorem dX12_settles_69 : decode cX12_settles 69 = .ok (.isub, 1) := by decide +kernel
theorem dX12_settles_70 : decode cX12_settles 70 = .ok (.putfield 176, 3) := by decide +kernel
theorem dX12_settles_73 : decode cX12_settles 73 = .ok (.goto (-73), 3) := by decide +kernel
theorem dX12_settles_76 : decode cX12_settles 76 = .ok (.return_, 1) := by decide +kernel
theorem dX12_value_0 : decode cX12_value 0 = .ok (.aload_n 0, 1) := by decide +kernel
theorem dX12_value_1 : decode cX12_value 1 = .ok (.invokevirtual 117, 3) := by decide +kernel
theorem dX12_value_4 : decode cX12_value 4 = .ok (.pop, 1) := by decide +kernel
theorem dX12_value_5 : decode cX12_value 5 = .ok (.aload_n 0, 1) := by decide +kernel
theorem dX12_value_6 : decode cX12_value 6 = .ok (.getfield 114, 3) := by decide +kernel
theorem dX12_value_9 : decode cX12_value 9 = .ok (.istore_n 1, 1) := by decide +kernel
theorem dX12_value_10 : decode cX12_value 10 = .ok (.aload_n 0, 1) := by decide +kernel
theorem dX12_value_11 : decode cX12_value 11 = .ok (.aload_n 0, 1) := by decide +kernel
theorem dX12_value_12 : decode cX12_value 12 = .ok (.getfield 114, 3) := by decide +kernel
theorem dX12_value_15 : decode cX12_value 15 = .ok (.invokevirtual 132, 3) := by decide +kernel
theorem dX12_value_18 : decode cX12_value 18 = .ok (.ifCond .eq 34, 3) := by decide +kernel
theorem dX12_value_21 : decode cX12_value 21 = .ok (.aload_n 0, 1) := by decide +kernel
theorem dX12_value_22 : decode cX12_value 22 = .ok (.iconst 0, 1) := by decide +kernel
theorem dX12_value_23 : decode cX12_value 23 = .ok (.ldc 190, 2) := by decide +kernel
theorem dX12_value_25 : decode cX12_value 25 = .ok (.invokevirtual 191, 3) := by decide +kernel
theorem dX12_value_28 : decode cX12_value 28 = .ok (.ifCond .eq 11, 3) := by decide +kernel
theorem dX12_value_31 : decode cX12_value 31 = .ok (.aload_n 0, 1) := by decide +kernel
theorem dX12_value_32 : decode cX12_value 32 = .ok (.iload_n 1, 1) := by decide +kernel
theorem dX12_value_33 : decode cX12_value 33 = .ok (.invokevirtual 194, 3) := by decide +kernel
theorem dX12_value_36 : decode cX12_value 36 = .ok (.ifCond .ne 5, 3) := by decide +kernel
theorem dX12_value_39 : decode cX12_value 39 = .ok (.iconst 0, 1) := by decide +kernel
theorem dX12_value_40 : decode cX12_value 40 = .ok (.ireturn, 1) := by decide +kernel
theorem dX12_value_41 : decode cX12_value 41 = .ok (.aload_n 0, 1) := by decide +kernel
theorem dX12_value_42 : decode cX12_value 42 = .ok (.iconst 0, 1) := by decide +kernel
theorem dX12_value_43 : decode cX12_value 43 = .ok (.aload_n 0, 1) := by decide +kernel
theorem dX12_value_44 : decode cX12_value 44 = .ok (.getfield 139, 3) := by decide +kernel
theorem dX12_value_47 : decode cX12_value 47 = .ok (.invokevirtual 186, 3) := by decide +kernel
theorem dX12_value_50 : decode cX12_value 50 = .ok (.iconst 1, 1) := by decide +kernel
theorem dX12_value_51 : decode cX12_value 51 = .ok (.ireturn, 1) := by decide +kernel
theorem dX12_value_52 : decode cX12_value 52 = .ok (.aload_n 0, 1) := by decide +kernel
theorem dX12_value_53 : decode cX12_value 53 = .ok (.invokevirtual 197, 3) := by decide +kernel
theorem dX12_value_56 : decode cX12_value 56 = .ok (.istore_n 2, 1) := by decide +kernel
theorem dX12_value_57 : decode cX12_value 57 = .ok (.iload_n 2, 1) := by decide +kernel
theorem dX12_value_58 : decode cX12_value 58 = .ok (.ifCond .ge 10, 3) := by decide +kernel
theorem dX12_value_61 : decode cX12_value 61 = .ok (.aload_n 0, 1) := by decide +kernel
theorem dX12_value_62 : decode cX12_value 62 = .ok (.iconst 0, 1) := by decide +kernel
theorem dX12_value_63 : decode cX12_value 63 = .ok (.iload_n 1, 1) := by decide +kernel
theorem dX12_value_64 : decode cX12_value 64 = .ok (.invokevirtual 135, 3) := by decide +kernel
theorem dX12_value_67 : decode cX12_value 67 = .ok (.ireturn, 1) := by decide +kernel
theorem dX12_value_68 : decode cX12_value 68 = .ok (.aload_n 0, 1) := by decide +kernel
theorem dX12_value_69 : decode cX12_value 69 = .ok (.iload_n 1, 1) := by decide +kernel
theorem dX12_value_70 : decode cX12_value 70 = .ok (.invokevirtual 194, 3) := by decide +kernel
theorem dX12_value_73 : decode cX12_value 73 = .ok (.ifCond .ne 5, 3) := by decide +kernel
theorem dX12_value_76 : decode cX12_value 76 = .ok (.iconst 0, 1) := by decide +kernel
theorem dX12_value_77 : decode cX12_value 77 = .ok (.ireturn, 1) := by decide +kernel
theorem dX12_value_78 : decode cX12_value 78 = .ok (.aload_n 0, 1) := by decide +kernel
theorem dX12_value_79 : decode cX12_value 79 = .ok (.invokevirtual 129, 3) := by decide +kernel
theorem dX12_value_82 : decode cX12_value 82 = .ok (.aload_n 0, 1) := by decide +kernel
theorem dX12_value_83 : decode cX12_value 83 = .ok (.iconst 1, 1) := by decide +kernel
theorem dX12_value_84 : decode cX12_value 84 = .ok (.iload_n 2, 1) := by decide +kernel
theorem dX12_value_85 : decode cX12_value 85 = .ok (.invokevirtual 186, 3) := by decide +kernel
theorem dX12_value_88 : decode cX12_value 88 = .ok (.iconst 1, 1) := by decide +kernel
theorem dX12_value_89 : decode cX12_value 89 = .ok (.ireturn, 1) := by decide +kernel
theorem dX12_term_0 : decode cX12_term 0 = .ok (.aload_n 0, 1) := by decide +kernel
theorem dX12_term_1 : decode cX12_term 1 = .ok (.invokevirtual 200, 3) := by decide +kernel
theorem dX12_term_4 : decode cX12_term 4 = .ok (.ifCond .ne 5, 3) := by decide +kernel
theorem dX12_term_7 : decode cX12_term 7 = .ok (.iconst 0, 1) := by decide +kernel
theorem dX12_term_8 : decode cX12_term 8 = .ok (.ireturn, 1) := by decide +kernel
theorem dX12_term_9 : decode cX12_term 9 = .ok (.aload_n 0, 1) := by decide +kernel
theorem dX12_term_10 : decode cX12_term 10 = .ok (.invokevirtual 117, 3) := by decide +kernel
theorem dX12_term_13 : decode cX12_term 13 = .ok (.bipush 42, 2) := by decide +kernel
theorem dX12_term_15 : decode cX12_term 15 = .ok (.if_icmp .eq 21, 3) := by decide +kernel
theorem dX12_term_18 : decode cX12_term 18 = .ok (.aload_n 0, 1) := by decide +kernel
theorem dX12_term_19 : decode cX12_term 19 = .ok (.invokevirtual 117, 3) := by decide +kernel
theorem dX12_term_22 : decode cX12_term 22 = .ok (.bipush 47, 2) := by decide +kernel
theorem dX12_term_24 : decode cX12_term 24 = .ok (.if_icmp .eq 12, 3) := by decide +kernel
theorem dX12_term_27 : decode cX12_term 27 = .ok (.aload_n 0, 1) := by decide +kernel
theorem dX12_term_28 : decode cX12_term 28 = .ok (.invokevirtual 117, 3) := by decide +kernel
theorem dX12_term_31 : decode cX12_term 31 = .ok (.bipush 37, 2) := by decide +kernel
theorem dX12_term_33 : decode cX12_term 33 = .ok (.if_icmp .ne 70, 3) := by decide +kernel
theorem dX12_term_36 : decode cX12_term 36 = .ok (.aload_n 0, 1) := by decide +kernel
theorem dX12_term_37 : decode cX12_term 37 = .ok (.getfield 7, 3) := by decide +kernel
theorem dX12_term_40 : decode cX12_term 40 = .ok (.aload_n 0, 1) := by decide +kernel
theorem dX12_term_41 : decode cX12_term 41 = .ok (.getfield 114, 3) := by decide +kernel
theorem dX12_term_44 : decode cX12_term 44 = .ok (.baload, 1) := by decide +kernel
theorem dX12_term_45 : decode cX12_term 45 = .ok (.bipush 42, 2) := by decide +kernel
theorem dX12_term_47 : decode cX12_term 47 = .ok (.if_icmp .ne 7, 3) := by decide +kernel
theorem dX12_term_50 : decode cX12_term 50 = .ok (.iconst 4, 1) := by decide +kernel
theorem dX12_term_51 : decode cX12_term 51 = .ok (.goto 23, 3) := by decide +kernel
theorem dX12_term_54 : decode cX12_term 54 = .ok (.aload_n 0, 1) := by decide +kernel
theorem dX12_term_55 : decode cX12_term 55 = .ok (.getfield 7, 3) := by decide +kernel
theorem dX12_term_58 : decode cX12_term 58 = .ok (.aload_n 0, 1) := by decide +kernel
theorem dX12_term_59 : decode cX12_term 59 = .ok (.getfield 114, 3) := by decide +kernel
theorem dX12_term_62 : decode cX12_term 62 = .ok (.baload, 1) := by decide +kernel
theorem dX12_term_63 : decode cX12_term 63 = .ok (.bipush 47, 2) := by decide +kernel
theorem dX12_term_65 : decode cX12_term 65 = .ok (.if_icmp .ne 7, 3) := by decide +kernel
theorem dX12_term_68 : decode cX12_term 68 = .ok (.iconst 5, 1) := by decide +kernel
theorem dX12_term_69 : decode cX12_term 69 = .ok (.goto 5, 3) := by decide +kernel
theorem dX12_term_72 : decode cX12_term 72 = .ok (.bipush 14, 2) := by decide +kernel
theorem dX12_term_74 : decode cX12_term 74 = .ok (.istore_n 1, 1) := by decide +kernel
theorem dX12_term_75 : decode cX12_term 75 = .ok (.aload_n 0, 1) := by decide +kernel
theorem dX12_term_76 : decode cX12_term 76 = .ok (.dup, 1) := by decide +kernel
theorem dX12_term_77 : decode cX12_term 77 = .ok (.getfield 114, 3) := by decide +kernel
theorem dX12_term_80 : decode cX12_term 80 = .ok (.iconst 1, 1) := by decide +kernel
theorem dX12_term_81 : decode cX12_term 81 = .ok (.iadd, 1) := by decide +kernel
theorem dX12_term_82 : decode cX12_term 82 = .ok (.putfield 114, 3) := by decide +kernel
theorem dX12_term_85 : decode cX12_term 85 = .ok (.aload_n 0, 1) := by decide +kernel
theorem dX12_term_86 : decode cX12_term 86 = .ok (.invokevirtual 200, 3) := by decide +kernel
theorem dX12_term_89 : decode cX12_term 89 = .ok (.ifCond .ne 5, 3) := by decide +kernel
theorem dX12_term_92 : decode cX12_term 92 = .ok (.iconst 0, 1) := by decide +kernel
theorem dX12_term_93 : decode cX12_term 93 = .ok (.ireturn, 1) := by decide +kernel
theorem dX12_term_94 : decode cX12_term 94 = .ok (.aload_n 0, 1) := by decide +kernel
theorem dX12_term_95 : decode cX12_term 95 = .ok (.iload_n 1, 1) := by decide +kernel
theorem dX12_term_96 : decode cX12_term 96 = .ok (.iconst 0, 1) := by decide +kernel
theorem dX12_term_97 : decode cX12_term 97 = .ok (.invokevirtual 186, 3) := by decide +kernel
theorem dX12_term_100 : decode cX12_term 100 = .ok (.goto (-91), 3) := by decide +kernel
theorem dX12_term_103 : decode cX12_term 103 = .ok (.iconst 1, 1) := by decide +kernel
theorem dX12_term_104 : decode cX12_term 104 = .ok (.ireturn, 1) := by decide +kernel
theorem dX12_sum_0 : decode cX12_sum 0 = .ok (.aload_n 0, 1) := by decide +kernel
theorem dX12_sum_1 : decode cX12_sum 1 = .ok (.invokevirtual 204, 3) := by decide +kernel
theorem dX12_sum_4 : decode cX12_sum 4 = .ok (.ifCond .ne 5, 3) := by decide +kernel
theorem dX12_sum_7 : decode cX12_sum 7 = .ok (.iconst 0, 1) := by decide +kernel
theorem dX12_sum_8 : decode cX12_sum 8 = .ok (.ireturn, 1) := by decide +kernel
theorem dX12_sum_9 : decode cX12_sum 9 = .ok (.aload_n 0, 1) := by decide +kernel
theorem dX12_sum_10 : decode cX12_sum 10 = .ok (.invokevirtual 117, 3) := by decide +kernel
theorem dX12_sum_13 : decode cX12_sum 13 = .ok (.bipush 43, 2) := by decide +kernel
theorem dX12_sum_15 : decode cX12_sum 15 = .ok (.if_icmp .eq 12, 3) := by decide +kernel
theorem dX12_sum_18 : decode cX12_sum 18 = .ok (.aload_n 0, 1) := by decide +kernel
theorem dX12_sum_19 : decode cX12_sum 19 = .ok (.invokevirtual 117, 3) := by decide +kernel
theorem dX12_sum_22 : decode cX12_sum 22 = .ok (.bipush 45, 2) := by decide +kernel
theorem dX12_sum_24 : decode cX12_sum 24 = .ok (.if_icmp .ne 51, 3) := by decide +kernel
theorem dX12_sum_27 : decode cX12_sum 27 = .ok (.aload_n 0, 1) := by decide +kernel
theorem dX12_sum_28 : decode cX12_sum 28 = .ok (.getfield 7, 3) := by decide +kernel
theorem dX12_sum_31 : decode cX12_sum 31 = .ok (.aload_n 0, 1) := by decide +kernel
theorem dX12_sum_32 : decode cX12_sum 32 = .ok (.getfield 114, 3) := by decide +kernel
theorem dX12_sum_35 : decode cX12_sum 35 = .ok (.baload, 1) := by decide +kernel
theorem dX12_sum_36 : decode cX12_sum 36 = .ok (.bipush 43, 2) := by decide +kernel
theorem dX12_sum_38 : decode cX12_sum 38 = .ok (.if_icmp .ne 7, 3) := by decide +kernel
theorem dX12_sum_41 : decode cX12_sum 41 = .ok (.iconst 2, 1) := by decide +kernel
theorem dX12_sum_42 : decode cX12_sum 42 = .ok (.goto 4, 3) := by decide +kernel
theorem dX12_sum_45 : decode cX12_sum 45 = .ok (.iconst 3, 1) := by decide +kernel
theorem dX12_sum_46 : decode cX12_sum 46 = .ok (.istore_n 1, 1) := by decide +kernel
theorem dX12_sum_47 : decode cX12_sum 47 = .ok (.aload_n 0, 1) := by decide +kernel
theorem dX12_sum_48 : decode cX12_sum 48 = .ok (.dup, 1) := by decide +kernel
theorem dX12_sum_49 : decode cX12_sum 49 = .ok (.getfield 114, 3) := by decide +kernel
theorem dX12_sum_52 : decode cX12_sum 52 = .ok (.iconst 1, 1) := by decide +kernel
theorem dX12_sum_53 : decode cX12_sum 53 = .ok (.iadd, 1) := by decide +kernel
theorem dX12_sum_54 : decode cX12_sum 54 = .ok (.putfield 114, 3) := by decide +kernel
theorem dX12_sum_57 : decode cX12_sum 57 = .ok (.aload_n 0, 1) := by decide +kernel
theorem dX12_sum_58 : decode cX12_sum 58 = .ok (.invokevirtual 204, 3) := by decide +kernel
theorem dX12_sum_61 : decode cX12_sum 61 = .ok (.ifCond .ne 5, 3) := by decide +kernel
theorem dX12_sum_64 : decode cX12_sum 64 = .ok (.iconst 0, 1) := by decide +kernel
theorem dX12_sum_65 : decode cX12_sum 65 = .ok (.ireturn, 1) := by decide +kernel
theorem dX12_sum_66 : decode cX12_sum 66 = .ok (.aload_n 0, 1) := by decide +kernel
theorem dX12_sum_67 : decode cX12_sum 67 = .ok (.iload_n 1, 1) := by decide +kernel
theorem dX12_sum_68 : decode cX12_sum 68 = .ok (.iconst 0, 1) := by decide +kernel
theorem dX12_sum_69 : decode cX12_sum 69 = .ok (.invokevirtual 186, 3) := by decide +kernel
theorem dX12_sum_72 : decode cX12_sum 72 = .ok (.goto (-63), 3) := by decide +kernel
theorem dX12_sum_75 : decode cX12_sum 75 = .ok (.iconst 1, 1) := by decide +kernel
theorem dX12_sum_76 : decode cX12_sum 76 = .ok (.ireturn, 1) := by decide +kernel
theorem dX12_compare_0 : decode cX12_compare 0 = .ok (.aload_n 0, 1) := by decide +kernel
theorem dX12_compare_1 : decode cX12_compare 1 = .ok (.invokevirtual 207, 3) := by decide +kernel
theorem dX12_compare_4 : decode cX12_compare 4 = .ok (.ifCond .ne 5, 3) := by decide +kernel
theorem dX12_compare_7 : decode cX12_compare 7 = .ok (.iconst 0, 1) := by decide +kernel
theorem dX12_compare_8 : decode cX12_compare 8 = .ok (.ireturn, 1) := by decide +kernel
theorem dX12_compare_9 : decode cX12_compare 9 = .ok (.aload_n 0, 1) := by decide +kernel
theorem dX12_compare_10 : decode cX12_compare 10 = .ok (.invokevirtual 117, 3) := by decide +kernel
theorem dX12_compare_13 : decode cX12_compare 13 = .ok (.istore_n 1, 1) := by decide +kernel
theorem dX12_compare_14 : decode cX12_compare 14 = .ok (.aload_n 0, 1) := by decide +kernel
theorem dX12_compare_15 : decode cX12_compare 15 = .ok (.getfield 114, 3) := by decide +kernel
theorem dX12_compare_18 : decode cX12_compare 18 = .ok (.istore_n 2, 1) := by decide +kernel
theorem dX12_compare_19 : decode cX12_compare 19 = .ok (.iload_n 1, 1) := by decide +kernel
theorem dX12_compare_20 : decode cX12_compare 20 = .ok (.bipush 60, 2) := by decide +kernel
theorem dX12_compare_22 : decode cX12_compare 22 = .ok (.if_icmp .eq 22, 3) := by decide +kernel
theorem dX12_compare_25 : decode cX12_compare 25 = .ok (.iload_n 1, 1) := by decide +kernel
theorem dX12_compare_26 : decode cX12_compare 26 = .ok (.bipush 61, 2) := by decide +kernel
theorem dX12_compare_28 : decode cX12_compare 28 = .ok (.if_icmp .eq 16, 3) := by decide +kernel
theorem dX12_compare_31 : decode cX12_compare 31 = .ok (.iload_n 1, 1) := by decide +kernel
theorem dX12_compare_32 : decode cX12_compare 32 = .ok (.bipush 62, 2) := by decide +kernel
theorem dX12_compare_34 : decode cX12_compare 34 = .ok (.if_icmp .eq 10, 3) := by decide +kernel
theorem dX12_compare_37 : decode cX12_compare 37 = .ok (.aload_n 0, 1) := by decide +kernel
theorem dX12_compare_38 : decode cX12_compare 38 = .ok (.iconst 0, 1) := by decide +kernel
theorem dX12_compare_39 : decode cX12_compare 39 = .ok (.iload_n 2, 1) := by decide +kernel
theorem dX12_compare_40 : decode cX12_compare 40 = .ok (.invokevirtual 135, 3) := by decide +kernel
theorem dX12_compare_43 : decode cX12_compare 43 = .ok (.ireturn, 1) := by decide +kernel
theorem dX12_compare_44 : decode cX12_compare 44 = .ok (.aload_n 0, 1) := by decide +kernel
theorem dX12_compare_45 : decode cX12_compare 45 = .ok (.dup, 1) := by decide +kernel
theorem dX12_compare_46 : decode cX12_compare 46 = .ok (.getfield 114, 3) := by decide +kernel
theorem dX12_compare_49 : decode cX12_compare 49 = .ok (.iconst 1, 1) := by decide +kernel
theorem dX12_compare_50 : decode cX12_compare 50 = .ok (.iadd, 1) := by decide +kernel
theorem dX12_compare_51 : decode cX12_compare 51 = .ok (.putfield 114, 3) := by decide +kernel
theorem dX12_compare_54 : decode cX12_compare 54 = .ok (.iload_n 1, 1) := by decide +kernel
theorem dX12_compare_55 : decode cX12_compare 55 = .ok (.bipush 61, 2) := by decide +kernel
theorem dX12_compare_57 : decode cX12_compare 57 = .ok (.if_icmp .eq 32, 3) := by decide +kernel
theorem dX12_compare_60 : decode cX12_compare 60 = .ok (.aload_n 0, 1) := by decide +kernel
theorem dX12_compare_61 : decode cX12_compare 61 = .ok (.getfield 114, 3) := by decide +kernel
theorem dX12_compare_64 : decode cX12_compare 64 = .ok (.aload_n 0, 1) := by decide +kernel
theorem dX12_compare_65 : decode cX12_compare 65 = .ok (.getfield 104, 3) := by decide +kernel
theorem dX12_compare_68 : decode cX12_compare 68 = .ok (.if_icmp .ge 21, 3) := by decide +kernel
theorem dX12_compare_71 : decode cX12_compare 71 = .ok (.aload_n 0, 1) := by decide +kernel
theorem dX12_compare_72 : decode cX12_compare 72 = .ok (.getfield 7, 3) := by decide +kernel
theorem dX12_compare_75 : decode cX12_compare 75 = .ok (.aload_n 0, 1) := by decide +kernel
theorem dX12_compare_76 : decode cX12_compare 76 = .ok (.getfield 114, 3) := by decide +kernel
theorem dX12_compare_79 : decode cX12_compare 79 = .ok (.baload, 1) := by decide +kernel
theorem dX12_compare_80 : decode cX12_compare 80 = .ok (.bipush 61, 2) := by decide +kernel
theorem dX12_compare_82 : decode cX12_compare 82 = .ok (.if_icmp .ne 7, 3) := by decide +kernel
theorem dX12_compare_85 : decode cX12_compare 85 = .ok (.iconst 1, 1) := by decide +kernel
theorem dX12_compare_86 : decode cX12_compare 86 = .ok (.goto 4, 3) := by decide +kernel
theorem dX12_compare_89 : decode cX12_compare 89 = .ok (.iconst 0, 1) := by decide +kernel
theorem dX12_compare_90 : decode cX12_compare 90 = .ok (.istore_n 3, 1) := by decide +kernel
theorem dX12_compare_91 : decode cX12_compare 91 = .ok (.iload_n 3, 1) := by decide +kernel
theorem dX12_compare_92 : decode cX12_compare 92 = .ok (.ifCond .eq 13, 3) := by decide +kernel
theorem dX12_compare_95 : decode cX12_compare 95 = .ok (.aload_n 0, 1) := by decide +kernel
theorem dX12_compare_96 : decode cX12_compare 96 = .ok (.dup, 1) := by decide +kernel
theorem dX12_compare_97 : decode cX12_compare 97 = .ok (.getfield 114, 3) := by decide +kernel
theorem dX12_compare_100 : decode cX12_compare 100 = .ok (.iconst 1, 1) := by decide +kernel
theorem dX12_compare_101 : decode cX12_compare 101 = .ok (.iadd, 1) := by decide +kernel
theorem dX12_compare_102 : decode cX12_compare 102 = .ok (.putfield 114, 3) := by decide +kernel
theorem dX12_compare_105 : decode cX12_compare 105 = .ok (.aload_n 0, 1) := by decide +kernel
theorem dX12_compare_106 : decode cX12_compare 106 = .ok (.iload_n 2, 1) := by decide +kernel
theorem dX12_compare_107 : decode cX12_compare 107 = .ok (.invokevirtual 194, 3) := by decide +kernel
theorem dX12_compare_110 : decode cX12_compare 110 = .ok (.ifCond .ne 5, 3) := by decide +kernel
theorem dX12_compare_113 : decode cX12_compare 113 = .ok (.iconst 0, 1) := by decide +kernel
theorem dX12_compare_114 : decode cX12_compare 114 = .ok (.ireturn, 1) := by decide +kernel
theorem dX12_compare_115 : decode cX12_compare 115 = .ok (.iload_n 1, 1) := by decide +kernel
theorem dX12_compare_116 : decode cX12_compare 116 = .ok (.bipush 60, 2) := by decide +kernel
theorem dX12_compare_118 : decode cX12_compare 118 = .ok (.if_icmp .ne 15, 3) := by decide +kernel
theorem dX12_compare_121 : decode cX12_compare 121 = .ok (.iload_n 3, 1) := by decide +kernel
theorem dX12_compare_122 : decode cX12_compare 122 = .ok (.ifCond .eq 7, 3) := by decide +kernel
theorem dX12_compare_125 : decode cX12_compare 125 = .ok (.iconst 1, 1) := by decide +kernel
theorem dX12_compare_126 : decode cX12_compare 126 = .ok (.goto 26, 3) := by decide +kernel
theorem dX12_compare_129 : decode cX12_compare 129 = .ok (.iconst 0, 1) := by decide +kernel
theorem dX12_compare_130 : decode cX12_compare 130 = .ok (.goto 22, 3) := by decide +kernel
theorem dX12_compare_133 : decode cX12_compare 133 = .ok (.iload_n 1, 1) := by decide +kernel
theorem dX12_compare_134 : decode cX12_compare 134 = .ok (.bipush 61, 2) := by decide +kernel
theorem dX12_compare_136 : decode cX12_compare 136 = .ok (.if_icmp .ne 7, 3) := by decide +kernel
theorem dX12_compare_139 : decode cX12_compare 139 = .ok (.iconst 2, 1) := by decide +kernel
theorem dX12_compare_140 : decode cX12_compare 140 = .ok (.goto 12, 3) := by decide +kernel
theorem dX12_compare_143 : decode cX12_compare 143 = .ok (.iload_n 3, 1) := by decide +kernel
theorem dX12_compare_144 : decode cX12_compare 144 = .ok (.ifCond .eq 7, 3) := by decide +kernel
theorem dX12_compare_147 : decode cX12_compare 147 = .ok (.iconst 3, 1) := by decide +kernel
theorem dX12_compare_148 : decode cX12_compare 148 = .ok (.goto 4, 3) := by decide +kernel
theorem dX12_compare_151 : decode cX12_compare 151 = .ok (.iconst 4, 1) := by decide +kernel
theorem dX12_compare_152 : decode cX12_compare 152 = .ok (.istore 4, 2) := by decide +kernel
theorem dX12_compare_154 : decode cX12_compare 154 = .ok (.aload_n 0, 1) := by decide +kernel
theorem dX12_compare_155 : decode cX12_compare 155 = .ok (.invokevirtual 207, 3) := by decide +kernel
theorem dX12_compare_158 : decode cX12_compare 158 = .ok (.ifCond .ne 5, 3) := by decide +kernel
theorem dX12_compare_161 : decode cX12_compare 161 = .ok (.iconst 0, 1) := by decide +kernel
theorem dX12_compare_162 : decode cX12_compare 162 = .ok (.ireturn, 1) := by decide +kernel
theorem dX12_compare_163 : decode cX12_compare 163 = .ok (.aload_n 0, 1) := by decide +kernel
theorem dX12_compare_164 : decode cX12_compare 164 = .ok (.bipush 6, 2) := by decide +kernel
theorem dX12_compare_166 : decode cX12_compare 166 = .ok (.iload 4, 2) := by decide +kernel
theorem dX12_compare_168 : decode cX12_compare 168 = .ok (.iadd, 1) := by decide +kernel
theorem dX12_compare_169 : decode cX12_compare 169 = .ok (.iconst 0, 1) := by decide +kernel
theorem dX12_compare_170 : decode cX12_compare 170 = .ok (.invokevirtual 186, 3) := by decide +kernel
theorem dX12_compare_173 : decode cX12_compare 173 = .ok (.iconst 1, 1) := by decide +kernel
theorem dX12_compare_174 : decode cX12_compare 174 = .ok (.ireturn, 1) := by decide +kernel
theorem dX12_fact_0 : decode cX12_fact 0 = .ok (.iconst 1, 1) := by decide +kernel
theorem dX12_fact_1 : decode cX12_fact 1 = .ok (.istore_n 1, 1) := by decide +kernel
theorem dX12_fact_2 : decode cX12_fact 2 = .ok (.iload_n 1, 1) := by decide +kernel
theorem dX12_fact_3 : decode cX12_fact 3 = .ok (.ifCond .eq 72, 3) := by decide +kernel
theorem dX12_fact_6 : decode cX12_fact 6 = .ok (.iconst 0, 1) := by decide +kernel
theorem dX12_fact_7 : decode cX12_fact 7 = .ok (.istore_n 1, 1) := by decide +kernel
theorem dX12_fact_8 : decode cX12_fact 8 = .ok (.aload_n 0, 1) := by decide +kernel
theorem dX12_fact_9 : decode cX12_fact 9 = .ok (.invokevirtual 117, 3) := by decide +kernel
theorem dX12_fact_12 : decode cX12_fact 12 = .ok (.istore_n 2, 1) := by decide +kernel
theorem dX12_fact_13 : decode cX12_fact 13 = .ok (.aload_n 0, 1) := by decide +kernel
theorem dX12_fact_14 : decode cX12_fact 14 = .ok (.ldc2_w 210, 3) := by decide +kernel
theorem dX12_fact_17 : decode cX12_fact 17 = .ok (.invokevirtual 125, 3) := by decide +kernel
theorem dX12_fact_20 : decode cX12_fact 20 = .ok (.ifCond .eq 23, 3) := by decide +kernel
theorem dX12_fact_23 : decode cX12_fact 23 = .ok (.aload_n 0, 1) := by decide +kernel
theorem dX12_fact_24 : decode cX12_fact 24 = .ok (.bipush 11, 2) := by decide +kernel
theorem dX12_fact_26 : decode cX12_fact 26 = .ok (.invokevirtual 212, 3) := by decide +kernel
theorem dX12_fact_29 : decode cX12_fact 29 = .ok (.ifCond .ne 5, 3) := by decide +kernel
theorem dX12_fact_32 : decode cX12_fact 32 = .ok (.iconst 0, 1) := by decide +kernel
theorem dX12_fact_33 : decode cX12_fact 33 = .ok (.ireturn, 1) := by decide +kernel
theorem dX12_fact_34 : decode cX12_fact 34 = .ok (.aload_n 0, 1) := by decide +kernel
theorem dX12_fact_35 : decode cX12_fact 35 = .ok (.invokevirtual 129, 3) := by decide +kernel
theorem dX12_fact_38 : decode cX12_fact 38 = .ok (.iconst 1, 1) := by decide +kernel
theorem dX12_fact_39 : decode cX12_fact 39 = .ok (.istore_n 1, 1) := by decide +kernel
theorem dX12_fact_40 : decode cX12_fact 40 = .ok (.goto 32, 3) := by decide +kernel
theorem dX12_fact_43 : decode cX12_fact 43 = .ok (.iload_n 2, 1) := by decide +kernel
theorem dX12_fact_44 : decode cX12_fact 44 = .ok (.bipush 91, 2) := by decide +kernel
theorem dX12_fact_46 : decode cX12_fact 46 = .ok (.if_icmp .ne 26, 3) := by decide +kernel
theorem dX12_fact_49 : decode cX12_fact 49 = .ok (.aload_n 0, 1) := by decide +kernel
theorem dX12_fact_50 : decode cX12_fact 50 = .ok (.bipush 91, 2) := by decide +kernel
theorem dX12_fact_52 : decode cX12_fact 52 = .ok (.invokevirtual 212, 3) := by decide +kernel
theorem dX12_fact_55 : decode cX12_fact 55 = .ok (.ifCond .ne 5, 3) := by decide +kernel
theorem dX12_fact_58 : decode cX12_fact 58 = .ok (.iconst 0, 1) := by decide +kernel
theorem dX12_fact_59 : decode cX12_fact 59 = .ok (.ireturn, 1) := by decide +kernel
theorem dX12_fact_60 : decode cX12_fact 60 = .ok (.aload_n 0, 1) := by decide +kernel
theorem dX12_fact_61 : decode cX12_fact 61 = .ok (.dup, 1) := by decide +kernel
theorem dX12_fact_62 : decode cX12_fact 62 = .ok (.getfield 114, 3) := by decide +kernel
theorem dX12_fact_65 : decode cX12_fact 65 = .ok (.iconst 1, 1) := by decide +kernel
theorem dX12_fact_66 : decode cX12_fact 66 = .ok (.iadd, 1) := by decide +kernel
theorem dX12_fact_67 : decode cX12_fact 67 = .ok (.putfield 114, 3) := by decide +kernel
theorem dX12_fact_70 : decode cX12_fact 70 = .ok (.iconst 1, 1) := by decide +kernel
theorem dX12_fact_71 : decode cX12_fact 71 = .ok (.istore_n 1, 1) := by decide +kernel
theorem dX12_fact_72 : decode cX12_fact 72 = .ok (.goto (-70), 3) := by decide +kernel
theorem dX12_fact_75 : decode cX12_fact 75 = .ok (.aload_n 0, 1) := by decide +kernel
theorem dX12_fact_76 : decode cX12_fact 76 = .ok (.invokevirtual 215, 3) := by decide +kernel
theorem dX12_fact_79 : decode cX12_fact 79 = .ok (.ireturn, 1) := by decide +kernel
theorem dX12_isInside_0 : decode cX12_isInside 0 = .ok (.iconst 0, 1) := by decide +kernel
theorem dX12_isInside_1 : decode cX12_isInside 1 = .ok (.istore_n 1, 1) := by decide +kernel
theorem dX12_isInside_2 : decode cX12_isInside 2 = .ok (.iload_n 1, 1) := by decide +kernel
theorem dX12_isInside_3 : decode cX12_isInside 3 = .ok (.aload_n 0, 1) := by decide +kernel
theorem dX12_isInside_4 : decode cX12_isInside 4 = .ok (.getfield 179, 3) := by decide +kernel
theorem dX12_isInside_7 : decode cX12_isInside 7 = .ok (.if_icmp .ge 22, 3) := by decide +kernel
theorem dX12_isInside_10 : decode cX12_isInside 10 = .ok (.aload_n 0, 1) := by decide +kernel
theorem dX12_isInside_11 : decode cX12_isInside 11 = .ok (.getfield 29, 3) := by decide +kernel
theorem dX12_isInside_14 : decode cX12_isInside 14 = .ok (.iload_n 1, 1) := by decide +kernel
theorem dX12_isInside_15 : decode cX12_isInside 15 = .ok (.iaload, 1) := by decide +kernel
theorem dX12_isInside_16 : decode cX12_isInside 16 = .ok (.bipush 91, 2) := by decide +kernel
theorem dX12_isInside_18 : decode cX12_isInside 18 = .ok (.if_icmp .ne 5, 3) := by decide +kernel
theorem dX12_isInside_21 : decode cX12_isInside 21 = .ok (.iconst 1, 1) := by decide +kernel
theorem dX12_isInside_22 : decode cX12_isInside 22 = .ok (.ireturn, 1) := by decide +kernel
theorem dX12_isInside_23 : decode cX12_isInside 23 = .ok (.iinc 1 1, 3) := by decide +kernel
theorem dX12_isInside_26 : decode cX12_isInside 26 = .ok (.goto (-24), 3) := by decide +kernel
theorem dX12_isInside_29 : decode cX12_isInside 29 = .ok (.iconst 0, 1) := by decide +kernel
theorem dX12_isInside_30 : decode cX12_isInside 30 = .ok (.ireturn, 1) := by decide +kernel
theorem dX12_closes_0 : decode cX12_closes 0 = .ok (.aload_n 0, 1) := by decide +kernel
theorem dX12_closes_1 : decode cX12_closes 1 = .ok (.iconst 3, 1) := by decide +kernel
theorem dX12_closes_2 : decode cX12_closes 2 = .ok (.invokevirtual 218, 3) := by decide +kernel
theorem dX12_closes_5 : decode cX12_closes 5 = .ok (.aload_n 0, 1) := by decide +kernel
theorem dX12_closes_6 : decode cX12_closes 6 = .ok (.invokevirtual 117, 3) := by decide +kernel
theorem dX12_closes_9 : decode cX12_closes 9 = .ok (.bipush 93, 2) := by decide +kernel
theorem dX12_closes_11 : decode cX12_closes 11 = .ok (.if_icmp .ne 53, 3) := by decide +kernel
theorem dX12_closes_14 : decode cX12_closes 14 = .ok (.aload_n 0, 1) := by decide +kernel
theorem dX12_closes_15 : decode cX12_closes 15 = .ok (.invokevirtual 221, 3) := by decide +kernel
theorem dX12_closes_18 : decode cX12_closes 18 = .ok (.ifCond .eq 46, 3) := by decide +kernel
theorem dX12_closes_21 : decode cX12_closes 21 = .ok (.aload_n 0, 1) := by decide +kernel
theorem dX12_closes_22 : decode cX12_closes 22 = .ok (.iconst 1, 1) := by decide +kernel
theorem dX12_closes_23 : decode cX12_closes 23 = .ok (.invokevirtual 218, 3) := by decide +kernel
theorem dX12_closes_26 : decode cX12_closes 26 = .ok (.aload_n 0, 1) := by decide +kernel
theorem dX12_closes_27 : decode cX12_closes 27 = .ok (.dup, 1) := by decide +kernel
theorem dX12_closes_28 : decode cX12_closes 28 = .ok (.getfield 179, 3) := by decide +kernel
theorem dX12_closes_31 : decode cX12_closes 31 = .ok (.iconst 1, 1) := by decide +kernel
theorem dX12_closes_32 : decode cX12_closes 32 = .ok (.isub, 1) := by decide +kernel
theorem dX12_closes_33 : decode cX12_closes 33 = .ok (.putfield 179, 3) := by decide +kernel
theorem dX12_closes_36 : decode cX12_closes 36 = .ok (.aload_n 0, 1) := by decide +kernel
theorem dX12_closes_37 : decode cX12_closes 37 = .ok (.dup, 1) := by decide +kernel
theorem dX12_closes_38 : decode cX12_closes 38 = .ok (.getfield 176, 3) := by decide +kernel
theorem dX12_closes_41 : decode cX12_closes 41 = .ok (.iconst 1, 1) := by decide +kernel
theorem dX12_closes_42 : decode cX12_closes 42 = .ok (.isub, 1) := by decide +kernel
theorem dX12_closes_43 : decode cX12_closes 43 = .ok (.putfield 176, 3) := by decide +kernel
theorem dX12_closes_46 : decode cX12_closes 46 = .ok (.aload_n 0, 1) := by decide +kernel
theorem dX12_closes_47 : decode cX12_closes 47 = .ok (.dup, 1) := by decide +kernel
theorem dX12_closes_48 : decode cX12_closes 48 = .ok (.getfield 114, 3) := by decide +kernel
theorem dX12_closes_51 : decode cX12_closes 51 = .ok (.iconst 1, 1) := by decide +kernel
theorem dX12_closes_52 : decode cX12_closes 52 = .ok (.iadd, 1) := by decide +kernel
theorem dX12_closes_53 : decode cX12_closes 53 = .ok (.putfield 114, 3) := by decide +kernel
theorem dX12_closes_56 : decode cX12_closes 56 = .ok (.aload_n 0, 1) := by decide +kernel
theorem dX12_closes_57 : decode cX12_closes 57 = .ok (.iconst 3, 1) := by decide +kernel
theorem dX12_closes_58 : decode cX12_closes 58 = .ok (.invokevirtual 218, 3) := by decide +kernel
theorem dX12_closes_61 : decode cX12_closes 61 = .ok (.goto (-56), 3) := by decide +kernel
theorem dX12_closes_64 : decode cX12_closes 64 = .ok (.return_, 1) := by decide +kernel
theorem dX12_tested_0 : decode cX12_tested 0 = .ok (.aload_n 0, 1) := by decide +kernel
theorem dX12_tested_1 : decode cX12_tested 1 = .ok (.iconst 0, 1) := by decide +kernel
theorem dX12_tested_2 : decode cX12_tested 2 = .ok (.putfield 179, 3) := by decide +kernel
theorem dX12_tested_5 : decode cX12_tested 5 = .ok (.aload_n 0, 1) := by decide +kernel
theorem dX12_tested_6 : decode cX12_tested 6 = .ok (.iconst 0, 1) := by decide +kernel
theorem dX12_tested_7 : decode cX12_tested 7 = .ok (.putfield 176, 3) := by decide +kernel
theorem dX12_tested_10 : decode cX12_tested 10 = .ok (.iconst 1, 1) := by decide +kernel
theorem dX12_tested_11 : decode cX12_tested 11 = .ok (.istore_n 1, 1) := by decide +kernel
theorem dX12_tested_12 : decode cX12_tested 12 = .ok (.iload_n 1, 1) := by decide +kernel
theorem dX12_tested_13 : decode cX12_tested 13 = .ok (.ifCond .eq 99, 3) := by decide +kernel
theorem dX12_tested_16 : decode cX12_tested 16 = .ok (.aload_n 0, 1) := by decide +kernel
theorem dX12_tested_17 : decode cX12_tested 17 = .ok (.invokevirtual 224, 3) := by decide +kernel
theorem dX12_tested_20 : decode cX12_tested 20 = .ok (.ifCond .ne 5, 3) := by decide +kernel
theorem dX12_tested_23 : decode cX12_tested 23 = .ok (.iconst 0, 1) := by decide +kernel
theorem dX12_tested_24 : decode cX12_tested 24 = .ok (.ireturn, 1) := by decide +kernel
theorem dX12_tested_25 : decode cX12_tested 25 = .ok (.aload_n 0, 1) := by decide +kernel
theorem dX12_tested_26 : decode cX12_tested 26 = .ok (.invokevirtual 227, 3) := by decide +kernel
theorem dX12_tested_29 : decode cX12_tested 29 = .ok (.aload_n 0, 1) := by decide +kernel
theorem dX12_tested_30 : decode cX12_tested 30 = .ok (.ldc2_w 230, 3) := by decide +kernel
theorem dX12_tested_33 : decode cX12_tested 33 = .ok (.invokevirtual 125, 3) := by decide +kernel
theorem dX12_tested_36 : decode cX12_tested 36 = .ok (.ifCond .ne 13, 3) := by decide +kernel
theorem dX12_tested_39 : decode cX12_tested 39 = .ok (.aload_n 0, 1) := by decide +kernel
theorem dX12_tested_40 : decode cX12_tested 40 = .ok (.ldc2_w 232, 3) := by decide +kernel
theorem dX12_tested_43 : decode cX12_tested 43 = .ok (.invokevirtual 125, 3) := by decide +kernel
theorem dX12_tested_46 : decode cX12_tested 46 = .ok (.ifCond .eq 7, 3) := by decide +kernel
theorem dX12_tested_49 : decode cX12_tested 49 = .ok (.iconst 1, 1) := by decide +kernel
theorem dX12_tested_50 : decode cX12_tested 50 = .ok (.goto 4, 3) := by decide +kernel
theorem dX12_tested_53 : decode cX12_tested 53 = .ok (.iconst 0, 1) := by decide +kernel
theorem dX12_tested_54 : decode cX12_tested 54 = .ok (.istore_n 1, 1) := by decide +kernel
theorem dX12_tested_55 : decode cX12_tested 55 = .ok (.iload_n 1, 1) := by decide +kernel
theorem dX12_tested_56 : decode cX12_tested 56 = .ok (.ifCond .eq (-44), 3) := by decide +kernel
theorem dX12_tested_59 : decode cX12_tested 59 = .ok (.aload_n 0, 1) := by decide +kernel
theorem dX12_tested_60 : decode cX12_tested 60 = .ok (.ldc2_w 230, 3) := by decide +kernel
theorem dX12_tested_63 : decode cX12_tested 63 = .ok (.invokevirtual 125, 3) := by decide +kernel
theorem dX12_tested_66 : decode cX12_tested 66 = .ok (.ifCond .eq 8, 3) := by decide +kernel
theorem dX12_tested_69 : decode cX12_tested 69 = .ok (.bipush 12, 2) := by decide +kernel
theorem dX12_tested_71 : decode cX12_tested 71 = .ok (.goto 5, 3) := by decide +kernel
theorem dX12_tested_74 : decode cX12_tested 74 = .ok (.bipush 13, 2) := by decide +kernel
theorem dX12_tested_76 : decode cX12_tested 76 = .ok (.istore_n 2, 1) := by decide +kernel
theorem dX12_tested_77 : decode cX12_tested 77 = .ok (.aload_n 0, 1) := by decide +kernel
theorem dX12_tested_78 : decode cX12_tested 78 = .ok (.invokevirtual 129, 3) := by decide +kernel
theorem dX12_tested_81 : decode cX12_tested 81 = .ok (.aload_n 0, 1) := by decide +kernel
theorem dX12_tested_82 : decode cX12_tested 82 = .ok (.iload_n 2, 1) := by decide +kernel
theorem dX12_tested_83 : decode cX12_tested 83 = .ok (.invokestatic 182, 3) := by decide +kernel
theorem dX12_tested_86 : decode cX12_tested 86 = .ok (.invokevirtual 218, 3) := by decide +kernel
theorem dX12_tested_89 : decode cX12_tested 89 = .ok (.aload_n 0, 1) := by decide +kernel
theorem dX12_tested_90 : decode cX12_tested 90 = .ok (.getfield 29, 3) := by decide +kernel
theorem dX12_tested_93 : decode cX12_tested 93 = .ok (.aload_n 0, 1) := by decide +kernel
theorem dX12_tested_94 : decode cX12_tested 94 = .ok (.getfield 179, 3) := by decide +kernel
theorem dX12_tested_97 : decode cX12_tested 97 = .ok (.iload_n 2, 1) := by decide +kernel
theorem dX12_tested_98 : decode cX12_tested 98 = .ok (.iastore, 1) := by decide +kernel
theorem dX12_tested_99 : decode cX12_tested 99 = .ok (.aload_n 0, 1) := by decide +kernel
theorem dX12_tested_100 : decode cX12_tested 100 = .ok (.dup, 1) := by decide +kernel
theorem dX12_tested_101 : decode cX12_tested 101 = .ok (.getfield 179, 3) := by decide +kernel
theorem dX12_tested_104 : decode cX12_tested 104 = .ok (.iconst 1, 1) := by decide +kernel
theorem dX12_tested_105 : decode cX12_tested 105 = .ok (.iadd, 1) := by decide +kernel
theorem dX12_tested_106 : decode cX12_tested 106 = .ok (.putfield 179, 3) := by decide +kernel
theorem dX12_tested_109 : decode cX12_tested 109 = .ok (.goto (-97), 3) := by decide +kernel
theorem dX12_tested_112 : decode cX12_tested 112 = .ok (.aload_n 0, 1) := by decide +kernel
theorem dX12_tested_113 : decode cX12_tested 113 = .ok (.invokevirtual 221, 3) := by decide +kernel
theorem dX12_tested_116 : decode cX12_tested 116 = .ok (.ifCond .eq 18, 3) := by decide +kernel
theorem dX12_tested_119 : decode cX12_tested 119 = .ok (.aload_n 0, 1) := by decide +kernel
theorem dX12_tested_120 : decode cX12_tested 120 = .ok (.invokevirtual 117, 3) := by decide +kernel
theorem dX12_tested_123 : decode cX12_tested 123 = .ok (.pop, 1) := by decide +kernel
theorem dX12_tested_124 : decode cX12_tested 124 = .ok (.aload_n 0, 1) := by decide +kernel
theorem dX12_tested_125 : decode cX12_tested 125 = .ok (.iconst 0, 1) := by decide +kernel
theorem dX12_tested_126 : decode cX12_tested 126 = .ok (.aload_n 0, 1) := by decide +kernel
theorem dX12_tested_127 : decode cX12_tested 127 = .ok (.getfield 114, 3) := by decide +kernel
theorem dX12_tested_130 : decode cX12_tested 130 = .ok (.invokevirtual 135, 3) := by decide +kernel
theorem dX12_tested_133 : decode cX12_tested 133 = .ok (.ireturn, 1) := by decide +kernel
theorem dX12_tested_134 : decode cX12_tested 134 = .ok (.aload_n 0, 1) := by decide +kernel
theorem dX12_tested_135 : decode cX12_tested 135 = .ok (.iconst 1, 1) := by decide +kernel
theorem dX12_tested_136 : decode cX12_tested 136 = .ok (.invokevirtual 218, 3) := by decide +kernel
theorem dX12_tested_139 : decode cX12_tested 139 = .ok (.iconst 1, 1) := by decide +kernel
theorem dX12_tested_140 : decode cX12_tested 140 = .ok (.ireturn, 1) := by decide +kernel
theorem dX12_isRightHere_0 : decode cX12_isRightHere 0 = .ok (.aload_n 0, 1) := by decide +kernel
theorem dX12_isRightHere_1 : decode cX12_isRightHere 1 = .ok (.invokevirtual 129, 3) := by decide +kernel
theorem dX12_isRightHere_4 : decode cX12_isRightHere 4 = .ok (.bipush 48, 2) := by decide +kernel
theorem dX12_isRightHere_6 : decode cX12_isRightHere 6 = .ok (.aload_n 0, 1) := by decide +kernel
theorem dX12_isRightHere_7 : decode cX12_isRightHere 7 = .ok (.getfield 170, 3) := by decide +kernel
theorem dX12_isRightHere_10 : decode cX12_isRightHere 10 = .ok (.imul, 1) := by decide +kernel
theorem dX12_isRightHere_11 : decode cX12_isRightHere 11 = .ok (.iconst 4, 1) := by decide +kernel
theorem dX12_isRightHere_12 : decode cX12_isRightHere 12 = .ok (.aload_n 0, 1) := by decide +kernel
theorem dX12_isRightHere_13 : decode cX12_isRightHere 13 = .ok (.getfield 23, 3) := by decide +kernel
theorem dX12_isRightHere_16 : decode cX12_isRightHere 16 = .ok (.aload_n 0, 1) := by decide +kernel
theorem dX12_isRightHere_17 : decode cX12_isRightHere 17 = .ok (.getfield 170, 3) := by decide +kernel
theorem dX12_isRightHere_20 : decode cX12_isRightHere 20 = .ok (.iaload, 1) := by decide +kernel
theorem dX12_isRightHere_21 : decode cX12_isRightHere 21 = .ok (.imul, 1) := by decide +kernel
theorem dX12_isRightHere_22 : decode cX12_isRightHere 22 = .ok (.iadd, 1) := by decide +kernel
theorem dX12_isRightHere_23 : decode cX12_isRightHere 23 = .ok (.istore_n 1, 1) := by decide +kernel
theorem dX12_isRightHere_24 : decode cX12_isRightHere 24 = .ok (.aload_n 0, 1) := by decide +kernel
theorem dX12_isRightHere_25 : decode cX12_isRightHere 25 = .ok (.getfield 20, 3) := by decide +kernel
theorem dX12_isRightHere_28 : decode cX12_isRightHere 28 = .ok (.iload_n 1, 1) := by decide +kernel
theorem dX12_isRightHere_29 : decode cX12_isRightHere 29 = .ok (.aload_n 0, 1) := by decide +kernel
theorem dX12_isRightHere_30 : decode cX12_isRightHere 30 = .ok (.getfield 17, 3) := by decide +kernel
theorem dX12_isRightHere_33 : decode cX12_isRightHere 33 = .ok (.aload_n 0, 1) := by decide +kernel
theorem dX12_isRightHere_34 : decode cX12_isRightHere 34 = .ok (.getfield 170, 3) := by decide +kernel
theorem dX12_isRightHere_37 : decode cX12_isRightHere 37 = .ok (.iaload, 1) := by decide +kernel
theorem dX12_isRightHere_38 : decode cX12_isRightHere 38 = .ok (.iastore, 1) := by decide +kernel
theorem dX12_isRightHere_39 : decode cX12_isRightHere 39 = .ok (.aload_n 0, 1) := by decide +kernel
theorem dX12_isRightHere_40 : decode cX12_isRightHere 40 = .ok (.invokevirtual 207, 3) := by decide +kernel
theorem dX12_isRightHere_43 : decode cX12_isRightHere 43 = .ok (.ifCond .ne 5, 3) := by decide +kernel
theorem dX12_isRightHere_46 : decode cX12_isRightHere 46 = .ok (.iconst 0, 1) := by decide +kernel
theorem dX12_isRightHere_47 : decode cX12_isRightHere 47 = .ok (.ireturn, 1) := by decide +kernel
theorem dX12_isRightHere_48 : decode cX12_isRightHere 48 = .ok (.aload_n 0, 1) := by decide +kernel
theorem dX12_isRightHere_49 : decode cX12_isRightHere 49 = .ok (.getfield 20, 3) := by decide +kernel
theorem dX12_isRightHere_52 : decode cX12_isRightHere 52 = .ok (.iload_n 1, 1) := by decide +kernel
theorem dX12_isRightHere_53 : decode cX12_isRightHere 53 = .ok (.iconst 1, 1) := by decide +kernel
theorem dX12_isRightHere_54 : decode cX12_isRightHere 54 = .ok (.iadd, 1) := by decide +kernel
theorem dX12_isRightHere_55 : decode cX12_isRightHere 55 = .ok (.aload_n 0, 1) := by decide +kernel
theorem dX12_isRightHere_56 : decode cX12_isRightHere 56 = .ok (.getfield 17, 3) := by decide +kernel
theorem dX12_isRightHere_59 : decode cX12_isRightHere 59 = .ok (.aload_n 0, 1) := by decide +kernel
theorem dX12_isRightHere_60 : decode cX12_isRightHere 60 = .ok (.getfield 170, 3) := by decide +kernel
theorem dX12_isRightHere_63 : decode cX12_isRightHere 63 = .ok (.iaload, 1) := by decide +kernel
theorem dX12_isRightHere_64 : decode cX12_isRightHere 64 = .ok (.iastore, 1) := by decide +kernel
theorem dX12_isRightHere_65 : decode cX12_isRightHere 65 = .ok (.aload_n 0, 1) := by decide +kernel
theorem dX12_isRightHere_66 : decode cX12_isRightHere 66 = .ok (.getfield 20, 3) := by decide +kernel
theorem dX12_isRightHere_69 : decode cX12_isRightHere 69 = .ok (.iload_n 1, 1) := by decide +kernel
theorem dX12_isRightHere_70 : decode cX12_isRightHere 70 = .ok (.iconst 2, 1) := by decide +kernel
theorem dX12_isRightHere_71 : decode cX12_isRightHere 71 = .ok (.iadd, 1) := by decide +kernel
theorem dX12_isRightHere_72 : decode cX12_isRightHere 72 = .ok (.iconst (-1), 1) := by decide +kernel
theorem dX12_isRightHere_73 : decode cX12_isRightHere 73 = .ok (.iastore, 1) := by decide +kernel
theorem dX12_isRightHere_74 : decode cX12_isRightHere 74 = .ok (.aload_n 0, 1) := by decide +kernel
theorem dX12_isRightHere_75 : decode cX12_isRightHere 75 = .ok (.ldc2_w 234, 3) := by decide +kernel
theorem dX12_isRightHere_78 : decode cX12_isRightHere 78 = .ok (.invokevirtual 236, 3) := by decide +kernel
theorem dX12_isRightHere_81 : decode cX12_isRightHere 81 = .ok (.ifCond .eq 29, 3) := by decide +kernel
theorem dX12_isRightHere_84 : decode cX12_isRightHere 84 = .ok (.aload_n 0, 1) := by decide +kernel
theorem dX12_isRightHere_85 : decode cX12_isRightHere 85 = .ok (.getfield 20, 3) := by decide +kernel
theorem dX12_isRightHere_88 : decode cX12_isRightHere 88 = .ok (.iload_n 1, 1) := by decide +kernel
theorem dX12_isRightHere_89 : decode cX12_isRightHere 89 = .ok (.iconst 2, 1) := by decide +kernel
theorem dX12_isRightHere_90 : decode cX12_isRightHere 90 = .ok (.iadd, 1) := by decide +kernel
theorem dX12_isRightHere_91 : decode cX12_isRightHere 91 = .ok (.aload_n 0, 1) := by decide +kernel
theorem dX12_isRightHere_92 : decode cX12_isRightHere 92 = .ok (.getfield 17, 3) := by decide +kernel
theorem dX12_isRightHere_95 : decode cX12_isRightHere 95 = .ok (.aload_n 0, 1) := by decide +kernel
theorem dX12_isRightHere_96 : decode cX12_isRightHere 96 = .ok (.getfield 170, 3) := by decide +kernel
theorem dX12_isRightHere_99 : decode cX12_isRightHere 99 = .ok (.iaload, 1) := by decide +kernel
theorem dX12_isRightHere_100 : decode cX12_isRightHere 100 = .ok (.iastore, 1) := by decide +kernel
theorem dX12_isRightHere_101 : decode cX12_isRightHere 101 = .ok (.aload_n 0, 1) := by decide +kernel
theorem dX12_isRightHere_102 : decode cX12_isRightHere 102 = .ok (.invokevirtual 239, 3) := by decide +kernel
theorem dX12_isRightHere_105 : decode cX12_isRightHere 105 = .ok (.ifCond .ne 5, 3) := by decide +kernel
theorem dX12_isRightHere_108 : decode cX12_isRightHere 108 = .ok (.iconst 0, 1) := by decide +kernel
theorem dX12_isRightHere_109 : decode cX12_isRightHere 109 = .ok (.ireturn, 1) := by decide +kernel
theorem dX12_isRightHere_110 : decode cX12_isRightHere 110 = .ok (.aload_n 0, 1) := by decide +kernel
theorem dX12_isRightHere_111 : decode cX12_isRightHere 111 = .ok (.getfield 20, 3) := by decide +kernel
theorem dX12_isRightHere_114 : decode cX12_isRightHere 114 = .ok (.iload_n 1, 1) := by decide +kernel
theorem dX12_isRightHere_115 : decode cX12_isRightHere 115 = .ok (.iconst 3, 1) := by decide +kernel
theorem dX12_isRightHere_116 : decode cX12_isRightHere 116 = .ok (.iadd, 1) := by decide +kernel
theorem dX12_isRightHere_117 : decode cX12_isRightHere 117 = .ok (.aload_n 0, 1) := by decide +kernel
theorem dX12_isRightHere_118 : decode cX12_isRightHere 118 = .ok (.getfield 17, 3) := by decide +kernel
theorem dX12_isRightHere_121 : decode cX12_isRightHere 121 = .ok (.aload_n 0, 1) := by decide +kernel
theorem dX12_isRightHere_122 : decode cX12_isRightHere 122 = .ok (.getfield 170, 3) := by decide +kernel
theorem dX12_isRightHere_125 : decode cX12_isRightHere 125 = .ok (.iaload, 1) := by decide +kernel
theorem dX12_isRightHere_126 : decode cX12_isRightHere 126 = .ok (.iastore, 1) := by decide +kernel
theorem dX12_isRightHere_127 : decode cX12_isRightHere 127 = .ok (.aload_n 0, 1) := by decide +kernel
theorem dX12_isRightHere_128 : decode cX12_isRightHere 128 = .ok (.getfield 23, 3) := by decide +kernel
theorem dX12_isRightHere_131 : decode cX12_isRightHere 131 = .ok (.aload_n 0, 1) := by decide +kernel
theorem dX12_isRightHere_132 : decode cX12_isRightHere 132 = .ok (.getfield 170, 3) := by decide +kernel
theorem dX12_isRightHere_135 : decode cX12_isRightHere 135 = .ok (.dup2, 1) := by decide +kernel
theorem dX12_isRightHere_136 : decode cX12_isRightHere 136 = .ok (.iaload, 1) := by decide +kernel
theorem dX12_isRightHere_137 : decode cX12_isRightHere 137 = .ok (.iconst 1, 1) := by decide +kernel
theorem dX12_isRightHere_138 : decode cX12_isRightHere 138 = .ok (.iadd, 1) := by decide +kernel
theorem dX12_isRightHere_139 : decode cX12_isRightHere 139 = .ok (.iastore, 1) := by decide +kernel
theorem dX12_isRightHere_140 : decode cX12_isRightHere 140 = .ok (.iconst 1, 1) := by decide +kernel
theorem dX12_isRightHere_141 : decode cX12_isRightHere 141 = .ok (.ireturn, 1) := by decide +kernel
theorem dX12_cellHere_0 : decode cX12_cellHere 0 = .ok (.aload_n 0, 1) := by decide +kernel
theorem dX12_cellHere_1 : decode cX12_cellHere 1 = .ok (.iload_n 2, 1) := by decide +kernel
theorem dX12_cellHere_2 : decode cX12_cellHere 2 = .ok (.iload_n 3, 1) := by decide +kernel
theorem dX12_cellHere_3 : decode cX12_cellHere 3 = .ok (.invokevirtual 191, 3) := by decide +kernel
theorem dX12_cellHere_6 : decode cX12_cellHere 6 = .ok (.ifCond .ne 5, 3) := by decide +kernel
theorem dX12_cellHere_9 : decode cX12_cellHere 9 = .ok (.iconst 0, 1) := by decide +kernel
theorem dX12_cellHere_10 : decode cX12_cellHere 10 = .ok (.ireturn, 1) := by decide +kernel
theorem dX12_cellHere_11 : decode cX12_cellHere 11 = .ok (.aload_n 0, 1) := by decide +kernel
theorem dX12_cellHere_12 : decode cX12_cellHere 12 = .ok (.getfield 26, 3) := by decide +kernel
theorem dX12_cellHere_15 : decode cX12_cellHere 15 = .ok (.iload_n 1, 1) := by decide +kernel
theorem dX12_cellHere_16 : decode cX12_cellHere 16 = .ok (.aload_n 0, 1) := by decide +kernel
theorem dX12_cellHere_17 : decode cX12_cellHere 17 = .ok (.getfield 139, 3) := by decide +kernel
theorem dX12_cellHere_20 : decode cX12_cellHere 20 = .ok (.iastore, 1) := by decide +kernel
theorem dX12_cellHere_21 : decode cX12_cellHere 21 = .ok (.iconst 1, 1) := by decide +kernel
theorem dX12_cellHere_22 : decode cX12_cellHere 22 = .ok (.ireturn, 1) := by decide +kernel
theorem dX12_isTownHere_0 : decode cX12_isTownHere 0 = .ok (.aload_n 0, 1) := by decide +kernel
theorem dX12_isTownHere_1 : decode cX12_isTownHere 1 = .ok (.getfield 26, 3) := by decide +kernel
theorem dX12_isTownHere_4 : decode cX12_isTownHere 4 = .ok (.iconst 0, 1) := by decide +kernel
theorem dX12_isTownHere_5 : decode cX12_isTownHere 5 = .ok (.iaload, 1) := by decide +kernel
theorem dX12_isTownHere_6 : decode cX12_isTownHere 6 = .ok (.ifCond .le 10, 3) := by decide +kernel
theorem dX12_isTownHere_9 : decode cX12_isTownHere 9 = .ok (.aload_n 0, 1) := by decide +kernel
theorem dX12_isTownHere_10 : decode cX12_isTownHere 10 = .ok (.iconst 4, 1) := by decide +kernel
theorem dX12_isTownHere_11 : decode cX12_isTownHere 11 = .ok (.iload_n 1, 1) := by decide +kernel
theorem dX12_isTownHere_12 : decode cX12_isTownHere 12 = .ok (.invokevirtual 135, 3) := by decide +kernel
theorem dX12_isTownHere_15 : decode cX12_isTownHere 15 = .ok (.ireturn, 1) := by decide +kernel
theorem dX12_isTownHere_16 : decode cX12_isTownHere 16 = .ok (.aload_n 0, 1) := by decide +kernel
theorem dX12_isTownHere_17 : decode cX12_isTownHere 17 = .ok (.invokevirtual 129, 3) := by decide +kernel
theorem dX12_isTownHere_20 : decode cX12_isTownHere 20 = .ok (.aload_n 0, 1) := by decide +kernel
theorem dX12_isTownHere_21 : decode cX12_isTownHere 21 = .ok (.iconst 1, 1) := by decide +kernel
theorem dX12_isTownHere_22 : decode cX12_isTownHere 22 = .ok (.bipush 99, 2) := by decide +kernel
theorem dX12_isTownHere_24 : decode cX12_isTownHere 24 = .ok (.invokevirtual 191, 3) := by decide +kernel
theorem dX12_isTownHere_27 : decode cX12_isTownHere 27 = .ok (.ifCond .ne 5, 3) := by decide +kernel
theorem dX12_isTownHere_30 : decode cX12_isTownHere 30 = .ok (.iconst 0, 1) := by decide +kernel
theorem dX12_isTownHere_31 : decode cX12_isTownHere 31 = .ok (.ireturn, 1) := by decide +kernel
theorem dX12_isTownHere_32 : decode cX12_isTownHere 32 = .ok (.aload_n 0, 1) := by decide +kernel
theorem dX12_isTownHere_33 : decode cX12_isTownHere 33 = .ok (.getfield 139, 3) := by decide +kernel
theorem dX12_isTownHere_36 : decode cX12_isTownHere 36 = .ok (.istore_n 2, 1) := by decide +kernel
theorem dX12_isTownHere_37 : decode cX12_isTownHere 37 = .ok (.aload_n 0, 1) := by decide +kernel
theorem dX12_isTownHere_38 : decode cX12_isTownHere 38 = .ok (.iconst 1, 1) := by decide +kernel
theorem dX12_isTownHere_39 : decode cX12_isTownHere 39 = .ok (.iconst 5, 1) := by decide +kernel
theorem dX12_isTownHere_40 : decode cX12_isTownHere 40 = .ok (.bipush 99, 2) := by decide +kernel
theorem dX12_isTownHere_42 : decode cX12_isTownHere 42 = .ok (.invokevirtual 242, 3) := by decide +kernel
theorem dX12_isTownHere_45 : decode cX12_isTownHere 45 = .ok (.ifCond .ne 5, 3) := by decide +kernel
theorem dX12_isTownHere_48 : decode cX12_isTownHere 48 = .ok (.iconst 0, 1) := by decide +kernel
theorem dX12_isTownHere_49 : decode cX12_isTownHere 49 = .ok (.ireturn, 1) := by decide +kernel
theorem dX12_isTownHere_50 : decode cX12_isTownHere 50 = .ok (.aload_n 0, 1) := by decide +kernel
theorem dX12_isTownHere_51 : decode cX12_isTownHere 51 = .ok (.getfield 26, 3) := by decide +kernel
theorem dX12_isTownHere_54 : decode cX12_isTownHere 54 = .ok (.iconst 0, 1) := by decide +kernel
theorem dX12_isTownHere_55 : decode cX12_isTownHere 55 = .ok (.iload_n 2, 1) := by decide +kernel
theorem dX12_isTownHere_56 : decode cX12_isTownHere 56 = .ok (.iastore, 1) := by decide +kernel
theorem dX12_isTownHere_57 : decode cX12_isTownHere 57 = .ok (.iconst 1, 1) := by decide +kernel
theorem dX12_isTownHere_58 : decode cX12_isTownHere 58 = .ok (.ireturn, 1) := by decide +kernel
theorem dX12_isBenchHere_0 : decode cX12_isBenchHere 0 = .ok (.aload_n 0, 1) := by decide +kernel
theorem dX12_isBenchHere_1 : decode cX12_isBenchHere 1 = .ok (.getfield 26, 3) := by decide +kernel
theorem dX12_isBenchHere_4 : decode cX12_isBenchHere 4 = .ok (.iconst 5, 1) := by decide +kernel
theorem dX12_isBenchHere_5 : decode cX12_isBenchHere 5 = .ok (.iaload, 1) := by decide +kernel
theorem dX12_isBenchHere_6 : decode cX12_isBenchHere 6 = .ok (.ifCond .lt 10, 3) := by decide +kernel
theorem dX12_isBenchHere_9 : decode cX12_isBenchHere 9 = .ok (.aload_n 0, 1) := by decide +kernel
theorem dX12_isBenchHere_10 : decode cX12_isBenchHere 10 = .ok (.iconst 4, 1) := by decide +kernel
theorem dX12_isBenchHere_11 : decode cX12_isBenchHere 11 = .ok (.iload_n 1, 1) := by decide +kernel
theorem dX12_isBenchHere_12 : decode cX12_isBenchHere 12 = .ok (.invokevirtual 135, 3) := by decide +kernel
theorem dX12_isBenchHere_15 : decode cX12_isBenchHere 15 = .ok (.ireturn, 1) := by decide +kernel
theorem dX12_isBenchHere_16 : decode cX12_isBenchHere 16 = .ok (.aload_n 0, 1) := by decide +kernel
theorem dX12_isBenchHere_17 : decode cX12_isBenchHere 17 = .ok (.invokevirtual 129, 3) := by decide +kernel
theorem dX12_isBenchHere_20 : decode cX12_isBenchHere 20 = .ok (.aload_n 0, 1) := by decide +kernel
theorem dX12_isBenchHere_21 : decode cX12_isBenchHere 21 = .ok (.iconst 5, 1) := by decide +kernel
theorem dX12_isBenchHere_22 : decode cX12_isBenchHere 22 = .ok (.iconst 0, 1) := by decide +kernel
theorem dX12_isBenchHere_23 : decode cX12_isBenchHere 23 = .ok (.sipush 9999, 3) := by decide +kernel
theorem dX12_isBenchHere_26 : decode cX12_isBenchHere 26 = .ok (.invokevirtual 242, 3) := by decide +kernel
theorem dX12_isBenchHere_29 : decode cX12_isBenchHere 29 = .ok (.ifCond .eq 25, 3) := by decide +kernel
theorem dX12_isBenchHere_32 : decode cX12_isBenchHere 32 = .ok (.aload_n 0, 1) := by decide +kernel
theorem dX12_isBenchHere_33 : decode cX12_isBenchHere 33 = .ok (.bipush 6, 2) := by decide +kernel
theorem dX12_isBenchHere_35 : decode cX12_isBenchHere 35 = .ok (.aload_n 0, 1) := by decide +kernel
theorem dX12_isBenchHere_36 : decode cX12_isBenchHere 36 = .ok (.getfield 26, 3) := by decide +kernel
theorem dX12_isBenchHere_39 : decode cX12_isBenchHere 39 = .ok (.iconst 5, 1) := by decide +kernel
theorem dX12_isBenchHere_40 : decode cX12_isBenchHere 40 = .ok (.iaload, 1) := by decide +kernel
theorem dX12_isBenchHere_41 : decode cX12_isBenchHere 41 = .ok (.sipush 9999, 3) := by decide +kernel
theorem dX12_isBenchHere_44 : decode cX12_isBenchHere 44 = .ok (.invokevirtual 242, 3) := by decide +kernel
theorem dX12_isBenchHere_47 : decode cX12_isBenchHere 47 = .ok (.ifCond .eq 7, 3) := by decide +kernel
theorem dX12_isBenchHere_50 : decode cX12_isBenchHere 50 = .ok (.iconst 1, 1) := by decide +kernel
theorem dX12_isBenchHere_51 : decode cX12_isBenchHere 51 = .ok (.goto 4, 3) := by decide +kernel
theorem dX12_isBenchHere_54 : decode cX12_isBenchHere 54 = .ok (.iconst 0, 1) := by decide +kernel
theorem dX12_isBenchHere_55 : decode cX12_isBenchHere 55 = .ok (.ireturn, 1) := by decide +kernel
theorem dX12_isPersonHere_0 : decode cX12_isPersonHere 0 = .ok (.aload_n 0, 1) := by decide +kernel
theorem dX12_isPersonHere_1 : decode cX12_isPersonHere 1 = .ok (.getfield 26, 3) := by decide +kernel
theorem dX12_isPersonHere_4 : decode cX12_isPersonHere 4 = .ok (.iconst 2, 1) := by decide +kernel
theorem dX12_isPersonHere_5 : decode cX12_isPersonHere 5 = .ok (.iaload, 1) := by decide +kernel
theorem dX12_isPersonHere_6 : decode cX12_isPersonHere 6 = .ok (.bipush 7, 2) := by decide +kernel
theorem dX12_isPersonHere_8 : decode cX12_isPersonHere 8 = .ok (.if_icmp .ne 10, 3) := by decide +kernel
theorem dX12_isPersonHere_11 : decode cX12_isPersonHere 11 = .ok (.aload_n 0, 1) := by decide +kernel
theorem dX12_isPersonHere_12 : decode cX12_isPersonHere 12 = .ok (.iconst 4, 1) := by decide +kernel
theorem dX12_isPersonHere_13 : decode cX12_isPersonHere 13 = .ok (.iload_n 1, 1) := by decide +kernel
theorem dX12_isPersonHere_14 : decode cX12_isPersonHere 14 = .ok (.invokevirtual 135, 3) := by decide +kernel
theorem dX12_isPersonHere_17 : decode cX12_isPersonHere 17 = .ok (.ireturn, 1) := by decide +kernel
theorem dX12_isPersonHere_18 : decode cX12_isPersonHere 18 = .ok (.aload_n 0, 1) := by decide +kernel
theorem dX12_isPersonHere_19 : decode cX12_isPersonHere 19 = .ok (.invokevirtual 129, 3) := by decide +kernel
theorem dX12_isPersonHere_22 : decode cX12_isPersonHere 22 = .ok (.bipush 10, 2) := by decide +kernel
theorem dX12_isPersonHere_24 : decode cX12_isPersonHere 24 = .ok (.iconst 5, 1) := by decide +kernel
theorem dX12_isPersonHere_25 : decode cX12_isPersonHere 25 = .ok (.aload_n 0, 1) := by decide +kernel
theorem dX12_isPersonHere_26 : decode cX12_isPersonHere 26 = .ok (.getfield 26, 3) := by decide +kernel
theorem dX12_isPersonHere_29 : decode cX12_isPersonHere 29 = .ok (.iconst 2, 1) := by decide +kernel
theorem dX12_isPersonHere_30 : decode cX12_isPersonHere 30 = .ok (.iaload, 1) := by decide +kernel
theorem dX12_isPersonHere_31 : decode cX12_isPersonHere 31 = .ok (.imul, 1) := by decide +kernel
theorem dX12_isPersonHere_32 : decode cX12_isPersonHere 32 = .ok (.iadd, 1) := by decide +kernel
theorem dX12_isPersonHere_33 : decode cX12_isPersonHere 33 = .ok (.istore_n 2, 1) := by decide +kernel
theorem dX12_isPersonHere_34 : decode cX12_isPersonHere 34 = .ok (.aload_n 0, 1) := by decide +kernel
theorem dX12_isPersonHere_35 : decode cX12_isPersonHere 35 = .ok (.iload_n 2, 1) := by decide +kernel
theorem dX12_isPersonHere_36 : decode cX12_isPersonHere 36 = .ok (.iconst 0, 1) := by decide +kernel
theorem dX12_isPersonHere_37 : decode cX12_isPersonHere 37 = .ok (.sipush 9999, 3) := by decide +kernel
theorem dX12_isPersonHere_40 : decode cX12_isPersonHere 40 = .ok (.invokevirtual 242, 3) := by decide +kernel
theorem dX12_isPersonHere_43 : decode cX12_isPersonHere 43 = .ok (.ifCond .eq 29, 3) := by decide +kernel
theorem dX12_isPersonHere_46 : decode cX12_isPersonHere 46 = .ok (.aload_n 0, 1) := by decide +kernel
theorem dX12_isPersonHere_47 : decode cX12_isPersonHere 47 = .ok (.iload_n 2, 1) := by decide +kernel
theorem dX12_isPersonHere_48 : decode cX12_isPersonHere 48 = .ok (.iconst 1, 1) := by decide +kernel
theorem dX12_isPersonHere_49 : decode cX12_isPersonHere 49 = .ok (.iadd, 1) := by decide +kernel
theorem dX12_isPersonHere_50 : decode cX12_isPersonHere 50 = .ok (.iconst 0, 1) := by decide +kernel
theorem dX12_isPersonHere_51 : decode cX12_isPersonHere 51 = .ok (.bipush 9, 2) := by decide +kernel
theorem dX12_isPersonHere_53 : decode cX12_isPersonHere 53 = .ok (.invokevirtual 242, 3) := by decide +kernel
theorem dX12_isPersonHere_56 : decode cX12_isPersonHere 56 = .ok (.ifCond .eq 16, 3) := by decide +kernel
theorem dX12_isPersonHere_59 : decode cX12_isPersonHere 59 = .ok (.aload_n 0, 1) := by decide +kernel
theorem dX12_isPersonHere_60 : decode cX12_isPersonHere 60 = .ok (.iload_n 2, 1) := by decide +kernel
theorem dX12_isPersonHere_61 : decode cX12_isPersonHere 61 = .ok (.iconst 2, 1) := by decide +kernel
theorem dX12_isPersonHere_62 : decode cX12_isPersonHere 62 = .ok (.iadd, 1) := by decide +kernel
theorem dX12_isPersonHere_63 : decode cX12_isPersonHere 63 = .ok (.iconst 0, 1) := by decide +kernel
theorem dX12_isPersonHere_64 : decode cX12_isPersonHere 64 = .ok (.bipush 9, 2) := by decide +kernel
theorem dX12_isPersonHere_66 : decode cX12_isPersonHere 66 = .ok (.invokevirtual 242, 3) := by decide +kernel
theorem dX12_isPersonHere_69 : decode cX12_isPersonHere 69 = .ok (.ifCond .ne 5, 3) := by decide +kernel
theorem dX12_isPersonHere_72 : decode cX12_isPersonHere 72 = .ok (.iconst 0, 1) := by decide +kernel
theorem dX12_isPersonHere_73 : decode cX12_isPersonHere 73 = .ok (.ireturn, 1) := by decide +kernel
theorem dX12_isPersonHere_74 : decode cX12_isPersonHere 74 = .ok (.aload_n 0, 1) := by decide +kernel
theorem dX12_isPersonHere_75 : decode cX12_isPersonHere 75 = .ok (.getfield 26, 3) := by decide +kernel
theorem dX12_isPersonHere_78 : decode cX12_isPersonHere 78 = .ok (.iload_n 2, 1) := by decide +kernel
theorem dX12_isPersonHere_79 : decode cX12_isPersonHere 79 = .ok (.iconst 3, 1) := by decide +kernel
theorem dX12_isPersonHere_80 : decode cX12_isPersonHere 80 = .ok (.iadd, 1) := by decide +kernel
theorem dX12_isPersonHere_81 : decode cX12_isPersonHere 81 = .ok (.iconst 0, 1) := by decide +kernel
theorem dX12_isPersonHere_82 : decode cX12_isPersonHere 82 = .ok (.iastore, 1) := by decide +kernel
theorem dX12_isPersonHere_83 : decode cX12_isPersonHere 83 = .ok (.aload_n 0, 1) := by decide +kernel
theorem dX12_isPersonHere_84 : decode cX12_isPersonHere 84 = .ok (.getfield 26, 3) := by decide +kernel
theorem dX12_isPersonHere_87 : decode cX12_isPersonHere 87 = .ok (.iload_n 2, 1) := by decide +kernel
theorem dX12_isPersonHere_88 : decode cX12_isPersonHere 88 = .ok (.iconst 4, 1) := by decide +kernel
theorem dX12_isPersonHere_89 : decode cX12_isPersonHere 89 = .ok (.iadd, 1) := by decide +kernel
theorem dX12_isPersonHere_90 : decode cX12_isPersonHere 90 = .ok (.iconst 0, 1) := by decide +kernel
theorem dX12_isPersonHere_91 : decode cX12_isPersonHere 91 = .ok (.iastore, 1) := by decide +kernel
theorem dX12_isPersonHere_92 : decode cX12_isPersonHere 92 = .ok (.aload_n 0, 1) := by decide +kernel
theorem dX12_isPersonHere_93 : decode cX12_isPersonHere 93 = .ok (.getfield 26, 3) := by decide +kernel
theorem dX12_isPersonHere_96 : decode cX12_isPersonHere 96 = .ok (.iconst 2, 1) := by decide +kernel
theorem dX12_isPersonHere_97 : decode cX12_isPersonHere 97 = .ok (.dup2, 1) := by decide +kernel
theorem dX12_isPersonHere_98 : decode cX12_isPersonHere 98 = .ok (.iaload, 1) := by decide +kernel
theorem dX12_isPersonHere_99 : decode cX12_isPersonHere 99 = .ok (.iconst 1, 1) := by decide +kernel
theorem dX12_isPersonHere_100 : decode cX12_isPersonHere 100 = .ok (.iadd, 1) := by decide +kernel
theorem dX12_isPersonHere_101 : decode cX12_isPersonHere 101 = .ok (.iastore, 1) := by decide +kernel
theorem dX12_isPersonHere_102 : decode cX12_isPersonHere 102 = .ok (.iconst 1, 1) := by decide +kernel
theorem dX12_isPersonHere_103 : decode cX12_isPersonHere 103 = .ok (.ireturn, 1) := by decide +kernel
theorem dX12_areTwinsHere_0 : decode cX12_areTwinsHere 0 = .ok (.aload_n 0, 1) := by decide +kernel
theorem dX12_areTwinsHere_1 : decode cX12_areTwinsHere 1 = .ok (.getfield 26, 3) := by decide +kernel
theorem dX12_areTwinsHere_4 : decode cX12_areTwinsHere 4 = .ok (.bipush 7, 2) := by decide +kernel
theorem dX12_areTwinsHere_6 : decode cX12_areTwinsHere 6 = .ok (.iaload, 1) := by decide +kernel
theorem dX12_areTwinsHere_7 : decode cX12_areTwinsHere 7 = .ok (.iconst 4, 1) := by decide +kernel
theorem dX12_areTwinsHere_8 : decode cX12_areTwinsHere 8 = .ok (.if_icmp .ne 10, 3) := by decide +kernel
theorem dX12_areTwinsHere_11 : decode cX12_areTwinsHere 11 = .ok (.aload_n 0, 1) := by decide +kernel
theorem dX12_areTwinsHere_12 : decode cX12_areTwinsHere 12 = .ok (.iconst 4, 1) := by decide +kernel
theorem dX12_areTwinsHere_13 : decode cX12_areTwinsHere 13 = .ok (.iload_n 1, 1) := by decide +kernel
theorem dX12_areTwinsHere_14 : decode cX12_areTwinsHere 14 = .ok (.invokevirtual 135, 3) := by decide +kernel
theorem dX12_areTwinsHere_17 : decode cX12_areTwinsHere 17 = .ok (.ireturn, 1) := by decide +kernel
theorem dX12_areTwinsHere_18 : decode cX12_areTwinsHere 18 = .ok (.aload_n 0, 1) := by decide +kernel
theorem dX12_areTwinsHere_19 : decode cX12_areTwinsHere 19 = .ok (.invokevirtual 129, 3) := by decide +kernel
theorem dX12_areTwinsHere_22 : decode cX12_areTwinsHere 22 = .ok (.aload_n 0, 1) := by decide +kernel
theorem dX12_areTwinsHere_23 : decode cX12_areTwinsHere 23 = .ok (.iconst 0, 1) := by decide +kernel
theorem dX12_areTwinsHere_24 : decode cX12_areTwinsHere 24 = .ok (.aload_n 0, 1) := by decide +kernel
theorem dX12_areTwinsHere_25 : decode cX12_areTwinsHere 25 = .ok (.getfield 26, 3) := by decide +kernel
theorem dX12_areTwinsHere_28 : decode cX12_areTwinsHere 28 = .ok (.iconst 2, 1) := by decide +kernel
theorem dX12_areTwinsHere_29 : decode cX12_areTwinsHere 29 = .ok (.iaload, 1) := by decide +kernel
theorem dX12_areTwinsHere_30 : decode cX12_areTwinsHere 30 = .ok (.iconst 1, 1) := by decide +kernel
theorem dX12_areTwinsHere_31 : decode cX12_areTwinsHere 31 = .ok (.isub, 1) := by decide +kernel
theorem dX12_areTwinsHere_32 : decode cX12_areTwinsHere 32 = .ok (.invokevirtual 191, 3) := by decide +kernel
theorem dX12_areTwinsHere_35 : decode cX12_areTwinsHere 35 = .ok (.ifCond .ne 5, 3) := by decide +kernel
theorem dX12_areTwinsHere_38 : decode cX12_areTwinsHere 38 = .ok (.iconst 0, 1) := by decide +kernel
theorem dX12_areTwinsHere_39 : decode cX12_areTwinsHere 39 = .ok (.ireturn, 1) := by decide +kernel
theorem dX12_areTwinsHere_40 : decode cX12_areTwinsHere 40 = .ok (.aload_n 0, 1) := by decide +kernel
theorem dX12_areTwinsHere_41 : decode cX12_areTwinsHere 41 = .ok (.getfield 139, 3) := by decide +kernel
theorem dX12_areTwinsHere_44 : decode cX12_areTwinsHere 44 = .ok (.istore_n 2, 1) := by decide +kernel
theorem dX12_areTwinsHere_45 : decode cX12_areTwinsHere 45 = .ok (.aload_n 0, 1) := by decide +kernel
theorem dX12_areTwinsHere_46 : decode cX12_areTwinsHere 46 = .ok (.invokevirtual 117, 3) := by decide +kernel
theorem dX12_areTwinsHere_49 : decode cX12_areTwinsHere 49 = .ok (.pop, 1) := by decide +kernel
theorem dX12_areTwinsHere_50 : decode cX12_areTwinsHere 50 = .ok (.aload_n 0, 1) := by decide +kernel
theorem dX12_areTwinsHere_51 : decode cX12_areTwinsHere 51 = .ok (.getfield 114, 3) := by decide +kernel
theorem dX12_areTwinsHere_54 : decode cX12_areTwinsHere 54 = .ok (.istore_n 3, 1) := by decide +kernel
theorem dX12_areTwinsHere_55 : decode cX12_areTwinsHere 55 = .ok (.aload_n 0, 1) := by decide +kernel
theorem dX12_areTwinsHere_56 : decode cX12_areTwinsHere 56 = .ok (.iconst 0, 1) := by decide +kernel
theorem dX12_areTwinsHere_57 : decode cX12_areTwinsHere 57 = .ok (.aload_n 0, 1) := by decide +kernel
theorem dX12_areTwinsHere_58 : decode cX12_areTwinsHere 58 = .ok (.getfield 26, 3) := by decide +kernel
theorem dX12_areTwinsHere_61 : decode cX12_areTwinsHere 61 = .ok (.iconst 2, 1) := by decide +kernel
theorem dX12_areTwinsHere_62 : decode cX12_areTwinsHere 62 = .ok (.iaload, 1) := by decide +kernel
theorem dX12_areTwinsHere_63 : decode cX12_areTwinsHere 63 = .ok (.iconst 1, 1) := by decide +kernel
theorem dX12_areTwinsHere_64 : decode cX12_areTwinsHere 64 = .ok (.isub, 1) := by decide +kernel
theorem dX12_areTwinsHere_65 : decode cX12_areTwinsHere 65 = .ok (.invokevirtual 191, 3) := by decide +kernel
theorem dX12_areTwinsHere_68 : decode cX12_areTwinsHere 68 = .ok (.ifCond .ne 5, 3) := by decide +kernel
theorem dX12_areTwinsHere_71 : decode cX12_areTwinsHere 71 = .ok (.iconst 0, 1) := by decide +kernel
theorem dX12_areTwinsHere_72 : decode cX12_areTwinsHere 72 = .ok (.ireturn, 1) := by decide +kernel
theorem dX12_areTwinsHere_73 : decode cX12_areTwinsHere 73 = .ok (.aload_n 0, 1) := by decide +kernel
theorem dX12_areTwinsHere_74 : decode cX12_areTwinsHere 74 = .ok (.getfield 139, 3) := by decide +kernel
theorem dX12_areTwinsHere_77 : decode cX12_areTwinsHere 77 = .ok (.iload_n 2, 1) := by decide +kernel
theorem dX12_areTwinsHere_78 : decode cX12_areTwinsHere 78 = .ok (.if_icmp .ne 10, 3) := by decide +kernel
theorem dX12_areTwinsHere_81 : decode cX12_areTwinsHere 81 = .ok (.aload_n 0, 1) := by decide +kernel
theorem dX12_areTwinsHere_82 : decode cX12_areTwinsHere 82 = .ok (.iconst 1, 1) := by decide +kernel
theorem dX12_areTwinsHere_83 : decode cX12_areTwinsHere 83 = .ok (.iload_n 3, 1) := by decide +kernel
theorem dX12_areTwinsHere_84 : decode cX12_areTwinsHere 84 = .ok (.invokevirtual 135, 3) := by decide +kernel
theorem dX12_areTwinsHere_87 : decode cX12_areTwinsHere 87 = .ok (.ireturn, 1) := by decide +kernel
theorem dX12_areTwinsHere_88 : decode cX12_areTwinsHere 88 = .ok (.aload_n 0, 1) := by decide +kernel
theorem dX12_areTwinsHere_89 : decode cX12_areTwinsHere 89 = .ok (.getfield 26, 3) := by decide +kernel
theorem dX12_areTwinsHere_92 : decode cX12_areTwinsHere 92 = .ok (.bipush 10, 2) := by decide +kernel
theorem dX12_areTwinsHere_94 : decode cX12_areTwinsHere 94 = .ok (.iconst 5, 1) := by decide +kernel
theorem dX12_areTwinsHere_95 : decode cX12_areTwinsHere 95 = .ok (.iload_n 2, 1) := by decide +kernel
theorem dX12_areTwinsHere_96 : decode cX12_areTwinsHere 96 = .ok (.imul, 1) := by decide +kernel
theorem dX12_areTwinsHere_97 : decode cX12_areTwinsHere 97 = .ok (.iadd, 1) := by decide +kernel
theorem dX12_areTwinsHere_98 : decode cX12_areTwinsHere 98 = .ok (.iconst 3, 1) := by decide +kernel
theorem dX12_areTwinsHere_99 : decode cX12_areTwinsHere 99 = .ok (.iadd, 1) := by decide +kernel
theorem dX12_areTwinsHere_100 : decode cX12_areTwinsHere 100 = .ok (.dup2, 1) := by decide +kernel
theorem dX12_areTwinsHere_101 : decode cX12_areTwinsHere 101 = .ok (.iaload, 1) := by decide +kernel
theorem dX12_areTwinsHere_102 : decode cX12_areTwinsHere 102 = .ok (.iconst 1, 1) := by decide +kernel
theorem dX12_areTwinsHere_103 : decode cX12_areTwinsHere 103 = .ok (.aload_n 0, 1) := by decide +kernel
theorem dX12_areTwinsHere_104 : decode cX12_areTwinsHere 104 = .ok (.getfield 139, 3) := by decide +kernel
theorem dX12_areTwinsHere_107 : decode cX12_areTwinsHere 107 = .ok (.ishl, 1) := by decide +kernel
theorem dX12_areTwinsHere_108 : decode cX12_areTwinsHere 108 = .ok (.ior, 1) := by decide +kernel
theorem dX12_areTwinsHere_109 : decode cX12_areTwinsHere 109 = .ok (.iastore, 1) := by decide +kernel
theorem dX12_areTwinsHere_110 : decode cX12_areTwinsHere 110 = .ok (.aload_n 0, 1) := by decide +kernel
theorem dX12_areTwinsHere_111 : decode cX12_areTwinsHere 111 = .ok (.getfield 26, 3) := by decide +kernel
theorem dX12_areTwinsHere_114 : decode cX12_areTwinsHere 114 = .ok (.bipush 10, 2) := by decide +kernel
theorem dX12_areTwinsHere_116 : decode cX12_areTwinsHere 116 = .ok (.iconst 5, 1) := by decide +kernel
theorem dX12_areTwinsHere_117 : decode cX12_areTwinsHere 117 = .ok (.aload_n 0, 1) := by decide +kernel
theorem dX12_areTwinsHere_118 : decode cX12_areTwinsHere 118 = .ok (.getfield 139, 3) := by decide +kernel
theorem dX12_areTwinsHere_121 : decode cX12_areTwinsHere 121 = .ok (.imul, 1) := by decide +kernel
theorem dX12_areTwinsHere_122 : decode cX12_areTwinsHere 122 = .ok (.iadd, 1) := by decide +kernel
theorem dX12_areTwinsHere_123 : decode cX12_areTwinsHere 123 = .ok (.iconst 3, 1) := by decide +kernel
theorem dX12_areTwinsHere_124 : decode cX12_areTwinsHere 124 = .ok (.iadd, 1) := by decide +kernel
theorem dX12_areTwinsHere_125 : decode cX12_areTwinsHere 125 = .ok (.dup2, 1) := by decide +kernel
theorem dX12_areTwinsHere_126 : decode cX12_areTwinsHere 126 = .ok (.iaload, 1) := by decide +kernel
theorem dX12_areTwinsHere_127 : decode cX12_areTwinsHere 127 = .ok (.iconst 1, 1) := by decide +kernel
theorem dX12_areTwinsHere_128 : decode cX12_areTwinsHere 128 = .ok (.iload_n 2, 1) := by decide +kernel
theorem dX12_areTwinsHere_129 : decode cX12_areTwinsHere 129 = .ok (.ishl, 1) := by decide +kernel
theorem dX12_areTwinsHere_130 : decode cX12_areTwinsHere 130 = .ok (.ior, 1) := by decide +kernel
theorem dX12_areTwinsHere_131 : decode cX12_areTwinsHere 131 = .ok (.iastore, 1) := by decide +kernel
theorem dX12_areTwinsHere_132 : decode cX12_areTwinsHere 132 = .ok (.aload_n 0, 1) := by decide +kernel
theorem dX12_areTwinsHere_133 : decode cX12_areTwinsHere 133 = .ok (.getfield 26, 3) := by decide +kernel
theorem dX12_areTwinsHere_136 : decode cX12_areTwinsHere 136 = .ok (.bipush 7, 2) := by decide +kernel
theorem dX12_areTwinsHere_138 : decode cX12_areTwinsHere 138 = .ok (.dup2, 1) := by decide +kernel
theorem dX12_areTwinsHere_139 : decode cX12_areTwinsHere 139 = .ok (.iaload, 1) := by decide +kernel
theorem dX12_areTwinsHere_140 : decode cX12_areTwinsHere 140 = .ok (.iconst 1, 1) := by decide +kernel
theorem dX12_areTwinsHere_141 : decode cX12_areTwinsHere 141 = .ok (.iadd, 1) := by decide +kernel
theorem dX12_areTwinsHere_142 : decode cX12_areTwinsHere 142 = .ok (.iastore, 1) := by decide +kernel
theorem dX12_areTwinsHere_143 : decode cX12_areTwinsHere 143 = .ok (.iconst 1, 1) := by decide +kernel
theorem dX12_areTwinsHere_144 : decode cX12_areTwinsHere 144 = .ok (.ireturn, 1) := by decide +kernel
theorem dX12_isCaseHere_0 : decode cX12_isCaseHere 0 = .ok (.aload_n 0, 1) := by decide +kernel
theorem dX12_isCaseHere_1 : decode cX12_isCaseHere 1 = .ok (.getfield 26, 3) := by decide +kernel
theorem dX12_isCaseHere_4 : decode cX12_isCaseHere 4 = .ok (.iconst 3, 1) := by decide +kernel
theorem dX12_isCaseHere_5 : decode cX12_isCaseHere 5 = .ok (.iaload, 1) := by decide +kernel
theorem dX12_isCaseHere_6 : decode cX12_isCaseHere 6 = .ok (.bipush 6, 2) := by decide +kernel
theorem dX12_isCaseHere_8 : decode cX12_isCaseHere 8 = .ok (.if_icmp .ne 10, 3) := by decide +kernel
theorem dX12_isCaseHere_11 : decode cX12_isCaseHere 11 = .ok (.aload_n 0, 1) := by decide +kernel
theorem dX12_isCaseHere_12 : decode cX12_isCaseHere 12 = .ok (.iconst 4, 1) := by decide +kernel
theorem dX12_isCaseHere_13 : decode cX12_isCaseHere 13 = .ok (.iload_n 1, 1) := by decide +kernel
theorem dX12_isCaseHere_14 : decode cX12_isCaseHere 14 = .ok (.invokevirtual 135, 3) := by decide +kernel
theorem dX12_isCaseHere_17 : decode cX12_isCaseHere 17 = .ok (.ireturn, 1) := by decide +kernel
theorem dX12_isCaseHere_18 : decode cX12_isCaseHere 18 = .ok (.aload_n 0, 1) := by decide +kernel
theorem dX12_isCaseHere_19 : decode cX12_isCaseHere 19 = .ok (.invokevirtual 129, 3) := by decide +kernel
theorem dX12_isCaseHere_22 : decode cX12_isCaseHere 22 = .ok (.bipush 45, 2) := by decide +kernel
theorem dX12_isCaseHere_24 : decode cX12_isCaseHere 24 = .ok (.bipush 11, 2) := by decide +kernel
theorem dX12_isCaseHere_26 : decode cX12_isCaseHere 26 = .ok (.aload_n 0, 1) := by decide +kernel
theorem dX12_isCaseHere_27 : decode cX12_isCaseHere 27 = .ok (.getfield 26, 3) := by decide +kernel
theorem dX12_isCaseHere_30 : decode cX12_isCaseHere 30 = .ok (.iconst 3, 1) := by decide +kernel
theorem dX12_isCaseHere_31 : decode cX12_isCaseHere 31 = .ok (.iaload, 1) := by decide +kernel
theorem dX12_isCaseHere_32 : decode cX12_isCaseHere 32 = .ok (.imul, 1) := by decide +kernel
theorem dX12_isCaseHere_33 : decode cX12_isCaseHere 33 = .ok (.iadd, 1) := by decide +kernel
theorem dX12_isCaseHere_34 : decode cX12_isCaseHere 34 = .ok (.istore_n 2, 1) := by decide +kernel
theorem dX12_isCaseHere_35 : decode cX12_isCaseHere 35 = .ok (.aload_n 0, 1) := by decide +kernel
theorem dX12_isCaseHere_36 : decode cX12_isCaseHere 36 = .ok (.iload_n 2, 1) := by decide +kernel
theorem dX12_isCaseHere_37 : decode cX12_isCaseHere 37 = .ok (.iconst 0, 1) := by decide +kernel
theorem dX12_isCaseHere_38 : decode cX12_isCaseHere 38 = .ok (.aload_n 0, 1) := by decide +kernel
theorem dX12_isCaseHere_39 : decode cX12_isCaseHere 39 = .ok (.getfield 26, 3) := by decide +kernel
theorem dX12_isCaseHere_42 : decode cX12_isCaseHere 42 = .ok (.iconst 2, 1) := by decide +kernel
theorem dX12_isCaseHere_43 : decode cX12_isCaseHere 43 = .ok (.iaload, 1) := by decide +kernel
theorem dX12_isCaseHere_44 : decode cX12_isCaseHere 44 = .ok (.iconst 1, 1) := by decide +kernel
theorem dX12_isCaseHere_45 : decode cX12_isCaseHere 45 = .ok (.isub, 1) := by decide +kernel
theorem dX12_isCaseHere_46 : decode cX12_isCaseHere 46 = .ok (.invokevirtual 242, 3) := by decide +kernel
theorem dX12_isCaseHere_49 : decode cX12_isCaseHere 49 = .ok (.ifCond .eq 42, 3) := by decide +kernel
theorem dX12_isCaseHere_52 : decode cX12_isCaseHere 52 = .ok (.aload_n 0, 1) := by decide +kernel
theorem dX12_isCaseHere_53 : decode cX12_isCaseHere 53 = .ok (.iload_n 2, 1) := by decide +kernel
theorem dX12_isCaseHere_54 : decode cX12_isCaseHere 54 = .ok (.iconst 1, 1) := by decide +kernel
theorem dX12_isCaseHere_55 : decode cX12_isCaseHere 55 = .ok (.iadd, 1) := by decide +kernel
theorem dX12_isCaseHere_56 : decode cX12_isCaseHere 56 = .ok (.iconst 1, 1) := by decide +kernel
theorem dX12_isCaseHere_57 : decode cX12_isCaseHere 57 = .ok (.bipush 9, 2) := by decide +kernel
theorem dX12_isCaseHere_59 : decode cX12_isCaseHere 59 = .ok (.invokevirtual 242, 3) := by decide +kernel
theorem dX12_isCaseHere_62 : decode cX12_isCaseHere 62 = .ok (.ifCond .eq 29, 3) := by decide +kernel
theorem dX12_isCaseHere_65 : decode cX12_isCaseHere 65 = .ok (.aload_n 0, 1) := by decide +kernel
theorem dX12_isCaseHere_66 : decode cX12_isCaseHere 66 = .ok (.iload_n 2, 1) := by decide +kernel
theorem dX12_isCaseHere_67 : decode cX12_isCaseHere 67 = .ok (.iconst 2, 1) := by decide +kernel
theorem dX12_isCaseHere_68 : decode cX12_isCaseHere 68 = .ok (.iadd, 1) := by decide +kernel
theorem dX12_isCaseHere_69 : decode cX12_isCaseHere 69 = .ok (.iconst 1, 1) := by decide +kernel
theorem dX12_isCaseHere_70 : decode cX12_isCaseHere 70 = .ok (.bipush 9, 2) := by decide +kernel
theorem dX12_isCaseHere_72 : decode cX12_isCaseHere 72 = .ok (.invokevirtual 242, 3) := by decide +kernel
theorem dX12_isCaseHere_75 : decode cX12_isCaseHere 75 = .ok (.ifCond .eq 16, 3) := by decide +kernel
theorem dX12_isCaseHere_78 : decode cX12_isCaseHere 78 = .ok (.aload_n 0, 1) := by decide +kernel
theorem dX12_isCaseHere_79 : decode cX12_isCaseHere 79 = .ok (.iload_n 2, 1) := by decide +kernel
theorem dX12_isCaseHere_80 : decode cX12_isCaseHere 80 = .ok (.iconst 3, 1) := by decide +kernel
theorem dX12_isCaseHere_81 : decode cX12_isCaseHere 81 = .ok (.iadd, 1) := by decide +kernel
theorem dX12_isCaseHere_82 : decode cX12_isCaseHere 82 = .ok (.iconst 0, 1) := by decide +kernel
theorem dX12_isCaseHere_83 : decode cX12_isCaseHere 83 = .ok (.bipush 99, 2) := by decide +kernel
theorem dX12_isCaseHere_85 : decode cX12_isCaseHere 85 = .ok (.invokevirtual 242, 3) := by decide +kernel
theorem dX12_isCaseHere_88 : decode cX12_isCaseHere 88 = .ok (.ifCond .ne 5, 3) := by decide +kernel
theorem dX12_isCaseHere_91 : decode cX12_isCaseHere 91 = .ok (.iconst 0, 1) := by decide +kernel
theorem dX12_isCaseHere_92 : decode cX12_isCaseHere 92 = .ok (.ireturn, 1) := by decide +kernel
theorem dX12_isCaseHere_93 : decode cX12_isCaseHere 93 = .ok (.iconst 4, 1) := by decide +kernel
theorem dX12_isCaseHere_94 : decode cX12_isCaseHere 94 = .ok (.istore_n 3, 1) := by decide +kernel
theorem dX12_isCaseHere_95 : decode cX12_isCaseHere 95 = .ok (.iload_n 3, 1) := by decide +kernel
theorem dX12_isCaseHere_96 : decode cX12_isCaseHere 96 = .ok (.bipush 11, 2) := by decide +kernel
theorem dX12_isCaseHere_98 : decode cX12_isCaseHere 98 = .ok (.if_icmp .ge 39, 3) := by decide +kernel
theorem dX12_isCaseHere_101 : decode cX12_isCaseHere 101 = .ok (.aload_n 0, 1) := by decide +kernel
theorem dX12_isCaseHere_102 : decode cX12_isCaseHere 102 = .ok (.getfield 26, 3) := by decide +kernel
theorem dX12_isCaseHere_105 : decode cX12_isCaseHere 105 = .ok (.iload_n 2, 1) := by decide +kernel
theorem dX12_isCaseHere_106 : decode cX12_isCaseHere 106 = .ok (.iload_n 3, 1) := by decide +kernel
theorem dX12_isCaseHere_107 : decode cX12_isCaseHere 107 = .ok (.iadd, 1) := by decide +kernel
theorem dX12_isCaseHere_108 : decode cX12_isCaseHere 108 = .ok (.iload_n 3, 1) := by decide +kernel
theorem dX12_isCaseHere_109 : decode cX12_isCaseHere 109 = .ok (.iconst 5, 1) := by decide +kernel
theorem dX12_isCaseHere_110 : decode cX12_isCaseHere 110 = .ok (.if_icmp .eq 15, 3) := by decide +kernel
theorem dX12_isCaseHere_113 : decode cX12_isCaseHere 113 = .ok (.iload_n 3, 1) := by decide +kernel
theorem dX12_isCaseHere_114 : decode cX12_isCaseHere 114 = .ok (.bipush 9, 2) := by decide +kernel
theorem dX12_isCaseHere_116 : decode cX12_isCaseHere 116 = .ok (.if_icmp .eq 9, 3) := by decide +kernel
theorem dX12_isCaseHere_119 : decode cX12_isCaseHere 119 = .ok (.iload_n 3, 1) := by decide +kernel
theorem dX12_isCaseHere_120 : decode cX12_isCaseHere 120 = .ok (.bipush 10, 2) := by decide +kernel
theorem dX12_isCaseHere_122 : decode cX12_isCaseHere 122 = .ok (.if_icmp .ne 7, 3) := by decide +kernel
theorem dX12_isCaseHere_125 : decode cX12_isCaseHere 125 = .ok (.iconst 0, 1) := by decide +kernel
theorem dX12_isCaseHere_126 : decode cX12_isCaseHere 126 = .ok (.goto 4, 3) := by decide +kernel
theorem dX12_isCaseHere_129 : decode cX12_isCaseHere 129 = .ok (.iconst (-1), 1) := by decide +kernel
theorem dX12_isCaseHere_130 : decode cX12_isCaseHere 130 = .ok (.iastore, 1) := by decide +kernel
theorem dX12_isCaseHere_131 : decode cX12_isCaseHere 131 = .ok (.iinc 3 1, 3) := by decide +kernel
theorem dX12_isCaseHere_134 : decode cX12_isCaseHere 134 = .ok (.goto (-39), 3) := by decide +kernel
theorem dX12_isCaseHere_137 : decode cX12_isCaseHere 137 = .ok (.aload_n 0, 1) := by decide +kernel
theorem dX12_isCaseHere_138 : decode cX12_isCaseHere 138 = .ok (.getfield 26, 3) := by decide +kernel
theorem dX12_isCaseHere_141 : decode cX12_isCaseHere 141 = .ok (.iconst 3, 1) := by decide +kernel
theorem dX12_isCaseHere_142 : decode cX12_isCaseHere 142 = .ok (.dup2, 1) := by decide +kernel
theorem dX12_isCaseHere_143 : decode cX12_isCaseHere 143 = .ok (.iaload, 1) := by decide +kernel
theorem dX12_isCaseHere_144 : decode cX12_isCaseHere 144 = .ok (.iconst 1, 1) := by decide +kernel
theorem dX12_isCaseHere_145 : decode cX12_isCaseHere 145 = .ok (.iadd, 1) := by decide +kernel
theorem dX12_isCaseHere_146 : decode cX12_isCaseHere 146 = .ok (.iastore, 1) := by decide +kernel
theorem dX12_isCaseHere_147 : decode cX12_isCaseHere 147 = .ok (.iconst 1, 1) := by decide +kernel
theorem dX12_isCaseHere_148 : decode cX12_isCaseHere 148 = .ok (.ireturn, 1) := by decide +kernel
theorem dX12_townLineHere_0 : decode cX12_townLineHere 0 = .ok (.aload_n 0, 1) := by decide +kernel
theorem dX12_townLineHere_1 : decode cX12_townLineHere 1 = .ok (.ldc2_w 246, 3) := by decide +kernel
theorem dX12_townLineHere_4 : decode cX12_townLineHere 4 = .ok (.invokevirtual 125, 3) := by decide +kernel
theorem dX12_townLineHere_7 : decode cX12_townLineHere 7 = .ok (.ifCond .eq 9, 3) := by decide +kernel
theorem dX12_townLineHere_10 : decode cX12_townLineHere 10 = .ok (.aload_n 0, 1) := by decide +kernel
theorem dX12_townLineHere_11 : decode cX12_townLineHere 11 = .ok (.iload_n 1, 1) := by decide +kernel
theorem dX12_townLineHere_12 : decode cX12_townLineHere 12 = .ok (.invokevirtual 248, 3) := by decide +kernel
theorem dX12_townLineHere_15 : decode cX12_townLineHere 15 = .ok (.ireturn, 1) := by decide +kernel
theorem dX12_townLineHere_16 : decode cX12_townLineHere 16 = .ok (.aload_n 0, 1) := by decide +kernel
theorem dX12_townLineHere_17 : decode cX12_townLineHere 17 = .ok (.getfield 26, 3) := by decide +kernel
theorem dX12_townLineHere_20 : decode cX12_townLineHere 20 = .ok (.iconst 0, 1) := by decide +kernel
theorem dX12_townLineHere_21 : decode cX12_townLineHere 21 = .ok (.iaload, 1) := by decide +kernel
theorem dX12_townLineHere_22 : decode cX12_townLineHere 22 = .ok (.ifCond .ne 10, 3) := by decide +kernel
theorem dX12_townLineHere_25 : decode cX12_townLineHere 25 = .ok (.aload_n 0, 1) := by decide +kernel
theorem dX12_townLineHere_26 : decode cX12_townLineHere 26 = .ok (.iconst 4, 1) := by decide +kernel
theorem dX12_townLineHere_27 : decode cX12_townLineHere 27 = .ok (.iload_n 1, 1) := by decide +kernel
theorem dX12_townLineHere_28 : decode cX12_townLineHere 28 = .ok (.invokevirtual 135, 3) := by decide +kernel
theorem dX12_townLineHere_31 : decode cX12_townLineHere 31 = .ok (.ireturn, 1) := by decide +kernel
theorem dX12_townLineHere_32 : decode cX12_townLineHere 32 = .ok (.aload_n 0, 1) := by decide +kernel
theorem dX12_townLineHere_33 : decode cX12_townLineHere 33 = .ok (.ldc2_w 251, 3) := by decide +kernel
theorem dX12_townLineHere_36 : decode cX12_townLineHere 36 = .ok (.invokevirtual 125, 3) := by decide +kernel
theorem dX12_townLineHere_39 : decode cX12_townLineHere 39 = .ok (.ifCond .eq 9, 3) := by decide +kernel
theorem dX12_townLineHere_42 : decode cX12_townLineHere 42 = .ok (.aload_n 0, 1) := by decide +kernel
theorem dX12_townLineHere_43 : decode cX12_townLineHere 43 = .ok (.iload_n 1, 1) := by decide +kernel
theorem dX12_townLineHere_44 : decode cX12_townLineHere 44 = .ok (.invokevirtual 253, 3) := by decide +kernel
theorem dX12_townLineHere_47 : decode cX12_townLineHere 47 = .ok (.ireturn, 1) := by decide +kernel
theorem dX12_townLineHere_48 : decode cX12_townLineHere 48 = .ok (.aload_n 0, 1) := by decide +kernel
theorem dX12_townLineHere_49 : decode cX12_townLineHere 49 = .ok (.ldc2_w 256, 3) := by decide +kernel
theorem dX12_townLineHere_52 : decode cX12_townLineHere 52 = .ok (.invokevirtual 125, 3) := by decide +kernel
theorem dX12_townLineHere_55 : decode cX12_townLineHere 55 = .ok (.ifCond .eq 9, 3) := by decide +kernel
theorem dX12_townLineHere_58 : decode cX12_townLineHere 58 = .ok (.aload_n 0, 1) := by decide +kernel
theorem dX12_townLineHere_59 : decode cX12_townLineHere 59 = .ok (.iload_n 1, 1) := by decide +kernel
theorem dX12_townLineHere_60 : decode cX12_townLineHere 60 = .ok (.invokevirtual 258, 3) := by decide +kernel
theorem dX12_townLineHere_63 : decode cX12_townLineHere 63 = .ok (.ireturn, 1) := by decide +kernel
theorem dX12_townLineHere_64 : decode cX12_townLineHere 64 = .ok (.aload_n 0, 1) := by decide +kernel
theorem dX12_townLineHere_65 : decode cX12_townLineHere 65 = .ok (.ldc2_w 261, 3) := by decide +kernel
theorem dX12_townLineHere_68 : decode cX12_townLineHere 68 = .ok (.invokevirtual 125, 3) := by decide +kernel
theorem dX12_townLineHere_71 : decode cX12_townLineHere 71 = .ok (.ifCond .eq 11, 3) := by decide +kernel
theorem dX12_townLineHere_74 : decode cX12_townLineHere 74 = .ok (.aload_n 0, 1) := by decide +kernel
theorem dX12_townLineHere_75 : decode cX12_townLineHere 75 = .ok (.iload_n 1, 1) := by decide +kernel
theorem dX12_townLineHere_76 : decode cX12_townLineHere 76 = .ok (.invokevirtual 263, 3) := by decide +kernel
theorem dX12_townLineHere_79 : decode cX12_townLineHere 79 = .ok (.goto 8, 3) := by decide +kernel
theorem dX12_townLineHere_82 : decode cX12_townLineHere 82 = .ok (.aload_n 0, 1) := by decide +kernel
theorem dX12_townLineHere_83 : decode cX12_townLineHere 83 = .ok (.iload_n 1, 1) := by decide +kernel
theorem dX12_townLineHere_84 : decode cX12_townLineHere 84 = .ok (.invokevirtual 266, 3) := by decide +kernel
theorem dX12_townLineHere_87 : decode cX12_townLineHere 87 = .ok (.ireturn, 1) := by decide +kernel
theorem dX12_isTownWord_0 : decode cX12_isTownWord 0 = .ok (.aload_n 0, 1) := by decide +kernel
theorem dX12_isTownWord_1 : decode cX12_isTownWord 1 = .ok (.ldc2_w 246, 3) := by decide +kernel
theorem dX12_isTownWord_4 : decode cX12_isTownWord 4 = .ok (.invokevirtual 125, 3) := by decide +kernel
theorem dX12_isTownWord_7 : decode cX12_isTownWord 7 = .ok (.ifCond .ne 43, 3) := by decide +kernel
theorem dX12_isTownWord_10 : decode cX12_isTownWord 10 = .ok (.aload_n 0, 1) := by decide +kernel
theorem dX12_isTownWord_11 : decode cX12_isTownWord 11 = .ok (.ldc2_w 251, 3) := by decide +kernel
theorem dX12_isTownWord_14 : decode cX12_isTownWord 14 = .ok (.invokevirtual 125, 3) := by decide +kernel
theorem dX12_isTownWord_17 : decode cX12_isTownWord 17 = .ok (.ifCond .ne 33, 3) := by decide +kernel
theorem dX12_isTownWord_20 : decode cX12_isTownWord 20 = .ok (.aload_n 0, 1) := by decide +kernel
theorem dX12_isTownWord_21 : decode cX12_isTownWord 21 = .ok (.ldc2_w 256, 3) := by decide +kernel
theorem dX12_isTownWord_24 : decode cX12_isTownWord 24 = .ok (.invokevirtual 125, 3) := by decide +kernel
theorem dX12_isTownWord_27 : decode cX12_isTownWord 27 = .ok (.ifCond .ne 23, 3) := by decide +kernel
theorem dX12_isTownWord_30 : decode cX12_isTownWord 30 = .ok (.aload_n 0, 1) := by decide +kernel
theorem dX12_isTownWord_31 : decode cX12_isTownWord 31 = .ok (.ldc2_w 261, 3) := by decide +kernel
theorem dX12_isTownWord_34 : decode cX12_isTownWord 34 = .ok (.invokevirtual 125, 3) := by decide +kernel
theorem dX12_isTownWord_37 : decode cX12_isTownWord 37 = .ok (.ifCond .ne 13, 3) := by decide +kernel
theorem dX12_isTownWord_40 : decode cX12_isTownWord 40 = .ok (.aload_n 0, 1) := by decide +kernel
theorem dX12_isTownWord_41 : decode cX12_isTownWord 41 = .ok (.ldc2_w 269, 3) := by decide +kernel
theorem dX12_isTownWord_44 : decode cX12_isTownWord 44 = .ok (.invokevirtual 125, 3) := by decide +kernel
theorem dX12_isTownWord_47 : decode cX12_isTownWord 47 = .ok (.ifCond .eq 7, 3) := by decide +kernel
theorem dX12_isTownWord_50 : decode cX12_isTownWord 50 = .ok (.iconst 1, 1) := by decide +kernel
theorem dX12_isTownWord_51 : decode cX12_isTownWord 51 = .ok (.goto 4, 3) := by decide +kernel
theorem dX12_isTownWord_54 : decode cX12_isTownWord 54 = .ok (.iconst 0, 1) := by decide +kernel
theorem dX12_isTownWord_55 : decode cX12_isTownWord 55 = .ok (.ireturn, 1) := by decide +kernel
theorem dX12_clauseHere_0 : decode cX12_clauseHere 0 = .ok (.aload_n 0, 1) := by decide +kernel
theorem dX12_clauseHere_1 : decode cX12_clauseHere 1 = .ok (.invokevirtual 117, 3) := by decide +kernel
theorem dX12_clauseHere_4 : decode cX12_clauseHere 4 = .ok (.pop, 1) := by decide +kernel
theorem dX12_clauseHere_5 : decode cX12_clauseHere 5 = .ok (.aload_n 0, 1) := by decide +kernel
theorem dX12_clauseHere_6 : decode cX12_clauseHere 6 = .ok (.getfield 114, 3) := by decide +kernel
theorem dX12_clauseHere_9 : decode cX12_clauseHere 9 = .ok (.istore_n 1, 1) := by decide +kernel
theorem dX12_clauseHere_10 : decode cX12_clauseHere 10 = .ok (.aload_n 0, 1) := by decide +kernel
theorem dX12_clauseHere_11 : decode cX12_clauseHere 11 = .ok (.getfield 170, 3) := by decide +kernel
theorem dX12_clauseHere_14 : decode cX12_clauseHere 14 = .ok (.bipush 6, 2) := by decide +kernel
theorem dX12_clauseHere_16 : decode cX12_clauseHere 16 = .ok (.if_icmp .ne 7, 3) := by decide +kernel
theorem dX12_clauseHere_19 : decode cX12_clauseHere 19 = .ok (.iconst 1, 1) := by decide +kernel
theorem dX12_clauseHere_20 : decode cX12_clauseHere 20 = .ok (.goto 4, 3) := by decide +kernel
theorem dX12_clauseHere_23 : decode cX12_clauseHere 23 = .ok (.iconst 0, 1) := by decide +kernel
theorem dX12_clauseHere_24 : decode cX12_clauseHere 24 = .ok (.istore_n 2, 1) := by decide +kernel
theorem dX12_clauseHere_25 : decode cX12_clauseHere 25 = .ok (.iload_n 2, 1) := by decide +kernel
theorem dX12_clauseHere_26 : decode cX12_clauseHere 26 = .ok (.ifCond .eq 13, 3) := by decide +kernel
theorem dX12_clauseHere_29 : decode cX12_clauseHere 29 = .ok (.aload_n 0, 1) := by decide +kernel
theorem dX12_clauseHere_30 : decode cX12_clauseHere 30 = .ok (.invokevirtual 271, 3) := by decide +kernel
theorem dX12_clauseHere_33 : decode cX12_clauseHere 33 = .ok (.ifCond .ne 23, 3) := by decide +kernel
theorem dX12_clauseHere_36 : decode cX12_clauseHere 36 = .ok (.goto 13, 3) := by decide +kernel
theorem dX12_clauseHere_39 : decode cX12_clauseHere 39 = .ok (.aload_n 0, 1) := by decide +kernel
theorem dX12_clauseHere_40 : decode cX12_clauseHere 40 = .ok (.ldc2_w 274, 3) := by decide +kernel
theorem dX12_clauseHere_43 : decode cX12_clauseHere 43 = .ok (.invokevirtual 125, 3) := by decide +kernel
theorem dX12_clauseHere_46 : decode cX12_clauseHere 46 = .ok (.ifCond .ne 10, 3) := by decide +kernel
theorem dX12_clauseHere_49 : decode cX12_clauseHere 49 = .ok (.aload_n 0, 1) := by decide +kernel
theorem dX12_clauseHere_50 : decode cX12_clauseHere 50 = .ok (.iconst 0, 1) := by decide +kernel
theorem dX12_clauseHere_51 : decode cX12_clauseHere 51 = .ok (.iload_n 1, 1) := by decide +kernel
theorem dX12_clauseHere_52 : decode cX12_clauseHere 52 = .ok (.invokevirtual 135, 3) := by decide +kernel
theorem dX12_clauseHere_55 : decode cX12_clauseHere 55 = .ok (.ireturn, 1) := by decide +kernel
theorem dX12_clauseHere_56 : decode cX12_clauseHere 56 = .ok (.aload_n 0, 1) := by decide +kernel
theorem dX12_clauseHere_57 : decode cX12_clauseHere 57 = .ok (.getfield 276, 3) := by decide +kernel
theorem dX12_clauseHere_60 : decode cX12_clauseHere 60 = .ok (.iload_n 2, 1) := by decide +kernel
theorem dX12_clauseHere_61 : decode cX12_clauseHere 61 = .ok (.ifCond .eq 8, 3) := by decide +kernel
theorem dX12_clauseHere_64 : decode cX12_clauseHere 64 = .ok (.bipush 40, 2) := by decide +kernel
theorem dX12_clauseHere_66 : decode cX12_clauseHere 66 = .ok (.goto 5, 3) := by decide +kernel
theorem dX12_clauseHere_69 : decode cX12_clauseHere 69 = .ok (.bipush 12, 2) := by decide +kernel
theorem dX12_clauseHere_71 : decode cX12_clauseHere 71 = .ok (.if_icmp .ne 10, 3) := by decide +kernel
theorem dX12_clauseHere_74 : decode cX12_clauseHere 74 = .ok (.aload_n 0, 1) := by decide +kernel
theorem dX12_clauseHere_75 : decode cX12_clauseHere 75 = .ok (.iconst 4, 1) := by decide +kernel
theorem dX12_clauseHere_76 : decode cX12_clauseHere 76 = .ok (.iload_n 1, 1) := by decide +kernel
theorem dX12_clauseHere_77 : decode cX12_clauseHere 77 = .ok (.invokevirtual 135, 3) := by decide +kernel
theorem dX12_clauseHere_80 : decode cX12_clauseHere 80 = .ok (.ireturn, 1) := by decide +kernel
theorem dX12_clauseHere_81 : decode cX12_clauseHere 81 = .ok (.aload_n 0, 1) := by decide +kernel
theorem dX12_clauseHere_82 : decode cX12_clauseHere 82 = .ok (.dup, 1) := by decide +kernel
theorem dX12_clauseHere_83 : decode cX12_clauseHere 83 = .ok (.getfield 276, 3) := by decide +kernel
theorem dX12_clauseHere_86 : decode cX12_clauseHere 86 = .ok (.iconst 1, 1) := by decide +kernel
theorem dX12_clauseHere_87 : decode cX12_clauseHere 87 = .ok (.iadd, 1) := by decide +kernel
theorem dX12_clauseHere_88 : decode cX12_clauseHere 88 = .ok (.putfield 276, 3) := by decide +kernel
theorem dX12_clauseHere_91 : decode cX12_clauseHere 91 = .ok (.iload_n 2, 1) := by decide +kernel
theorem dX12_clauseHere_92 : decode cX12_clauseHere 92 = .ok (.ifCond .eq 11, 3) := by decide +kernel
theorem dX12_clauseHere_95 : decode cX12_clauseHere 95 = .ok (.aload_n 0, 1) := by decide +kernel
theorem dX12_clauseHere_96 : decode cX12_clauseHere 96 = .ok (.iload_n 1, 1) := by decide +kernel
theorem dX12_clauseHere_97 : decode cX12_clauseHere 97 = .ok (.invokevirtual 279, 3) := by decide +kernel
theorem dX12_clauseHere_100 : decode cX12_clauseHere 100 = .ok (.goto 7, 3) := by decide +kernel
theorem dX12_clauseHere_103 : decode cX12_clauseHere 103 = .ok (.aload_n 0, 1) := by decide +kernel
theorem dX12_clauseHere_104 : decode cX12_clauseHere 104 = .ok (.invokevirtual 282, 3) := by decide +kernel
theorem dX12_clauseHere_107 : decode cX12_clauseHere 107 = .ok (.ireturn, 1) := by decide +kernel
theorem dX12_readsAll_0 : decode cX12_readsAll 0 = .ok (.aload_n 0, 1) := by decide +kernel
theorem dX12_readsAll_1 : decode cX12_readsAll 1 = .ok (.getfield 17, 3) := by decide +kernel
theorem dX12_readsAll_4 : decode cX12_readsAll 4 = .ok (.aload_n 0, 1) := by decide +kernel
theorem dX12_readsAll_5 : decode cX12_readsAll 5 = .ok (.getfield 170, 3) := by decide +kernel
theorem dX12_readsAll_8 : decode cX12_readsAll 8 = .ok (.iconst 0, 1) := by decide +kernel
theorem dX12_readsAll_9 : decode cX12_readsAll 9 = .ok (.iastore, 1) := by decide +kernel
theorem dX12_readsAll_10 : decode cX12_readsAll 10 = .ok (.aload_n 0, 1) := by decide +kernel
theorem dX12_readsAll_11 : decode cX12_readsAll 11 = .ok (.iconst 0, 1) := by decide +kernel
theorem dX12_readsAll_12 : decode cX12_readsAll 12 = .ok (.putfield 276, 3) := by decide +kernel
theorem dX12_readsAll_15 : decode cX12_readsAll 15 = .ok (.aload_n 0, 1) := by decide +kernel
theorem dX12_readsAll_16 : decode cX12_readsAll 16 = .ok (.iconst 0, 1) := by decide +kernel
theorem dX12_readsAll_17 : decode cX12_readsAll 17 = .ok (.putfield 114, 3) := by decide +kernel
theorem dX12_readsAll_20 : decode cX12_readsAll 20 = .ok (.aload_n 0, 1) := by decide +kernel
theorem dX12_readsAll_21 : decode cX12_readsAll 21 = .ok (.iconst 0, 1) := by decide +kernel
theorem dX12_readsAll_22 : decode cX12_readsAll 22 = .ok (.putfield 111, 3) := by decide +kernel
theorem dX12_readsAll_25 : decode cX12_readsAll 25 = .ok (.aload_n 0, 1) := by decide +kernel
theorem dX12_readsAll_26 : decode cX12_readsAll 26 = .ok (.iconst 0, 1) := by decide +kernel
theorem dX12_readsAll_27 : decode cX12_readsAll 27 = .ok (.putfield 173, 3) := by decide +kernel
theorem dX12_readsAll_30 : decode cX12_readsAll 30 = .ok (.aload_n 0, 1) := by decide +kernel
theorem dX12_readsAll_31 : decode cX12_readsAll 31 = .ok (.invokevirtual 285, 3) := by decide +kernel
theorem dX12_readsAll_34 : decode cX12_readsAll 34 = .ok (.istore_n 1, 1) := by decide +kernel
theorem dX12_readsAll_35 : decode cX12_readsAll 35 = .ok (.iload_n 1, 1) := by decide +kernel
theorem dX12_readsAll_36 : decode cX12_readsAll 36 = .ok (.ifCond .eq 30, 3) := by decide +kernel
theorem dX12_readsAll_39 : decode cX12_readsAll 39 = .ok (.aload_n 0, 1) := by decide +kernel
theorem dX12_readsAll_40 : decode cX12_readsAll 40 = .ok (.invokevirtual 117, 3) := by decide +kernel
theorem dX12_readsAll_43 : decode cX12_readsAll 43 = .ok (.bipush 59, 2) := by decide +kernel
theorem dX12_readsAll_45 : decode cX12_readsAll 45 = .ok (.if_icmp .ne 21, 3) := by decide +kernel
theorem dX12_readsAll_48 : decode cX12_readsAll 48 = .ok (.aload_n 0, 1) := by decide +kernel
theorem dX12_readsAll_49 : decode cX12_readsAll 49 = .ok (.dup, 1) := by decide +kernel
theorem dX12_readsAll_50 : decode cX12_readsAll 50 = .ok (.getfield 114, 3) := by decide +kernel
theorem dX12_readsAll_53 : decode cX12_readsAll 53 = .ok (.iconst 1, 1) := by decide +kernel
theorem dX12_readsAll_54 : decode cX12_readsAll 54 = .ok (.iadd, 1) := by decide +kernel
theorem dX12_readsAll_55 : decode cX12_readsAll 55 = .ok (.putfield 114, 3) := by decide +kernel
theorem dX12_readsAll_58 : decode cX12_readsAll 58 = .ok (.aload_n 0, 1) := by decide +kernel
theorem dX12_readsAll_59 : decode cX12_readsAll 59 = .ok (.invokevirtual 285, 3) := by decide +kernel
theorem dX12_readsAll_62 : decode cX12_readsAll 62 = .ok (.istore_n 1, 1) := by decide +kernel
theorem dX12_readsAll_63 : decode cX12_readsAll 63 = .ok (.goto (-28), 3) := by decide +kernel
theorem dX12_readsAll_66 : decode cX12_readsAll 66 = .ok (.iload_n 1, 1) := by decide +kernel
theorem dX12_readsAll_67 : decode cX12_readsAll 67 = .ok (.ifCond .eq 21, 3) := by decide +kernel
theorem dX12_readsAll_70 : decode cX12_readsAll 70 = .ok (.aload_n 0, 1) := by decide +kernel
theorem dX12_readsAll_71 : decode cX12_readsAll 71 = .ok (.invokevirtual 117, 3) := by decide +kernel
theorem dX12_readsAll_74 : decode cX12_readsAll 74 = .ok (.iconst (-1), 1) := by decide +kernel
theorem dX12_readsAll_75 : decode cX12_readsAll 75 = .ok (.if_icmp .eq 13, 3) := by decide +kernel
theorem dX12_readsAll_78 : decode cX12_readsAll 78 = .ok (.aload_n 0, 1) := by decide +kernel
theorem dX12_readsAll_79 : decode cX12_readsAll 79 = .ok (.iconst 0, 1) := by decide +kernel
theorem dX12_readsAll_80 : decode cX12_readsAll 80 = .ok (.aload_n 0, 1) := by decide +kernel
theorem dX12_readsAll_81 : decode cX12_readsAll 81 = .ok (.getfield 114, 3) := by decide +kernel
theorem dX12_readsAll_84 : decode cX12_readsAll 84 = .ok (.invokevirtual 135, 3) := by decide +kernel
theorem dX12_readsAll_87 : decode cX12_readsAll 87 = .ok (.pop, 1) := by decide +kernel
theorem dX12_readsAll_88 : decode cX12_readsAll 88 = .ok (.aload_n 0, 1) := by decide +kernel
theorem dX12_readsAll_89 : decode cX12_readsAll 89 = .ok (.iconst 0, 1) := by decide +kernel
theorem dX12_readsAll_90 : decode cX12_readsAll 90 = .ok (.putfield 104, 3) := by decide +kernel
theorem dX12_readsAll_93 : decode cX12_readsAll 93 = .ok (.aload_n 0, 1) := by decide +kernel
theorem dX12_readsAll_94 : decode cX12_readsAll 94 = .ok (.getfield 111, 3) := by decide +kernel
theorem dX12_readsAll_97 : decode cX12_readsAll 97 = .ok (.ifCond .ne 7, 3) := by decide +kernel
theorem dX12_readsAll_100 : decode cX12_readsAll 100 = .ok (.iconst 1, 1) := by decide +kernel
theorem dX12_readsAll_101 : decode cX12_readsAll 101 = .ok (.goto 4, 3) := by decide +kernel
theorem dX12_readsAll_104 : decode cX12_readsAll 104 = .ok (.iconst 0, 1) := by decide +kernel
theorem dX12_readsAll_105 : decode cX12_readsAll 105 = .ok (.ireturn, 1) := by decide +kernel
theorem dX12_rule_0 : decode cX12_rule 0 = .ok (.aload_n 0, 1) := by decide +kernel
theorem dX12_rule_1 : decode cX12_rule 1 = .ok (.getfield 288, 3) := by decide +kernel
theorem dX12_rule_4 : decode cX12_rule 4 = .ok (.bipush 6, 2) := by decide +kernel
theorem dX12_rule_6 : decode cX12_rule 6 = .ok (.if_icmp .ne 5, 3) := by decide +kernel
theorem dX12_rule_9 : decode cX12_rule 9 = .ok (.iconst (-1), 1) := by decide +kernel
theorem dX12_rule_10 : decode cX12_rule 10 = .ok (.ireturn, 1) := by decide +kernel
theorem dX12_rule_11 : decode cX12_rule 11 = .ok (.aload_n 0, 1) := by decide +kernel
theorem dX12_rule_12 : decode cX12_rule 12 = .ok (.aload_n 0, 1) := by decide +kernel
theorem dX12_rule_13 : decode cX12_rule 13 = .ok (.getfield 288, 3) := by decide +kernel
theorem dX12_rule_16 : decode cX12_rule 16 = .ok (.putfield 170, 3) := by decide +kernel
theorem dX12_rule_19 : decode cX12_rule 19 = .ok (.aload_n 0, 1) := by decide +kernel
theorem dX12_rule_20 : decode cX12_rule 20 = .ok (.getfield 23, 3) := by decide +kernel
theorem dX12_rule_23 : decode cX12_rule 23 = .ok (.aload_n 0, 1) := by decide +kernel
theorem dX12_rule_24 : decode cX12_rule 24 = .ok (.getfield 170, 3) := by decide +kernel
theorem dX12_rule_27 : decode cX12_rule 27 = .ok (.iconst 0, 1) := by decide +kernel
theorem dX12_rule_28 : decode cX12_rule 28 = .ok (.iastore, 1) := by decide +kernel
theorem dX12_rule_29 : decode cX12_rule 29 = .ok (.aload_n 0, 1) := by decide +kernel
theorem dX12_rule_30 : decode cX12_rule 30 = .ok (.invokevirtual 291, 3) := by decide +kernel
theorem dX12_rule_33 : decode cX12_rule 33 = .ok (.ifCond .ne 11, 3) := by decide +kernel
theorem dX12_rule_36 : decode cX12_rule 36 = .ok (.bipush (-2), 2) := by decide +kernel
theorem dX12_rule_38 : decode cX12_rule 38 = .ok (.aload_n 0, 1) := by decide +kernel
theorem dX12_rule_39 : decode cX12_rule 39 = .ok (.getfield 111, 3) := by decide +kernel
theorem dX12_rule_42 : decode cX12_rule 42 = .ok (.isub, 1) := by decide +kernel
theorem dX12_rule_43 : decode cX12_rule 43 = .ok (.ireturn, 1) := by decide +kernel
theorem dX12_rule_44 : decode cX12_rule 44 = .ok (.aload_n 0, 1) := by decide +kernel
theorem dX12_rule_45 : decode cX12_rule 45 = .ok (.dup, 1) := by decide +kernel
theorem dX12_rule_46 : decode cX12_rule 46 = .ok (.getfield 288, 3) := by decide +kernel
theorem dX12_rule_49 : decode cX12_rule 49 = .ok (.iconst 1, 1) := by decide +kernel
theorem dX12_rule_50 : decode cX12_rule 50 = .ok (.iadd, 1) := by decide +kernel
theorem dX12_rule_51 : decode cX12_rule 51 = .ok (.putfield 288, 3) := by decide +kernel
theorem dX12_rule_54 : decode cX12_rule 54 = .ok (.aload_n 0, 1) := by decide +kernel
theorem dX12_rule_55 : decode cX12_rule 55 = .ok (.getfield 288, 3) := by decide +kernel
theorem dX12_rule_58 : decode cX12_rule 58 = .ok (.iconst 1, 1) := by decide +kernel
theorem dX12_rule_59 : decode cX12_rule 59 = .ok (.isub, 1) := by decide +kernel
theorem dX12_rule_60 : decode cX12_rule 60 = .ok (.ireturn, 1) := by decide +kernel
theorem dX12_town_0 : decode cX12_town 0 = .ok (.aload_n 0, 1) := by decide +kernel
theorem dX12_town_1 : decode cX12_town 1 = .ok (.bipush 6, 2) := by decide +kernel
theorem dX12_town_3 : decode cX12_town 3 = .ok (.putfield 170, 3) := by decide +kernel
theorem dX12_town_6 : decode cX12_town 6 = .ok (.iconst 0, 1) := by decide +kernel
theorem dX12_town_7 : decode cX12_town 7 = .ok (.istore_n 1, 1) := by decide +kernel
theorem dX12_town_8 : decode cX12_town 8 = .ok (.iload_n 1, 1) := by decide +kernel
theorem dX12_town_9 : decode cX12_town 9 = .ok (.bipush 10, 2) := by decide +kernel
theorem dX12_town_11 : decode cX12_town 11 = .ok (.if_icmp .ge 31, 3) := by decide +kernel
theorem dX12_town_14 : decode cX12_town 14 = .ok (.aload_n 0, 1) := by decide +kernel
theorem dX12_town_15 : decode cX12_town 15 = .ok (.getfield 26, 3) := by decide +kernel
theorem dX12_town_18 : decode cX12_town 18 = .ok (.iload_n 1, 1) := by decide +kernel
theorem dX12_town_19 : decode cX12_town 19 = .ok (.iload_n 1, 1) := by decide +kernel
theorem dX12_town_20 : decode cX12_town 20 = .ok (.iconst 5, 1) := by decide +kernel
theorem dX12_town_21 : decode cX12_town 21 = .ok (.if_icmp .eq 9, 3) := by decide +kernel
theorem dX12_town_24 : decode cX12_town 24 = .ok (.iload_n 1, 1) := by decide +kernel
theorem dX12_town_25 : decode cX12_town 25 = .ok (.bipush 6, 2) := by decide +kernel
theorem dX12_town_27 : decode cX12_town 27 = .ok (.if_icmp .ne 7, 3) := by decide +kernel
theorem dX12_town_30 : decode cX12_town 30 = .ok (.iconst (-1), 1) := by decide +kernel
theorem dX12_town_31 : decode cX12_town 31 = .ok (.goto 4, 3) := by decide +kernel
theorem dX12_town_34 : decode cX12_town 34 = .ok (.iconst 0, 1) := by decide +kernel
theorem dX12_town_35 : decode cX12_town 35 = .ok (.iastore, 1) := by decide +kernel
theorem dX12_town_36 : decode cX12_town 36 = .ok (.iinc 1 1, 3) := by decide +kernel
theorem dX12_town_39 : decode cX12_town 39 = .ok (.goto (-31), 3) := by decide +kernel
theorem dX12_town_42 : decode cX12_town 42 = .ok (.aload_n 0, 1) := by decide +kernel
theorem dX12_town_43 : decode cX12_town 43 = .ok (.invokevirtual 291, 3) := by decide +kernel
theorem dX12_town_46 : decode cX12_town 46 = .ok (.ifCond .ne 11, 3) := by decide +kernel
theorem dX12_town_49 : decode cX12_town 49 = .ok (.bipush (-2), 2) := by decide +kernel
theorem dX12_town_51 : decode cX12_town 51 = .ok (.aload_n 0, 1) := by decide +kernel
theorem dX12_town_52 : decode cX12_town 52 = .ok (.getfield 111, 3) := by decide +kernel
theorem dX12_town_55 : decode cX12_town 55 = .ok (.isub, 1) := by decide +kernel
theorem dX12_town_56 : decode cX12_town 56 = .ok (.ireturn, 1) := by decide +kernel
theorem dX12_town_57 : decode cX12_town 57 = .ok (.iconst 0, 1) := by decide +kernel
theorem dX12_town_58 : decode cX12_town 58 = .ok (.istore_n 1, 1) := by decide +kernel
theorem dX12_town_59 : decode cX12_town 59 = .ok (.iload_n 1, 1) := by decide +kernel
theorem dX12_town_60 : decode cX12_town 60 = .ok (.sipush 142, 3) := by decide +kernel
theorem dX12_town_63 : decode cX12_town 63 = .ok (.if_icmp .ge 31, 3) := by decide +kernel
theorem dX12_town_66 : decode cX12_town 66 = .ok (.aload_n 0, 1) := by decide +kernel
theorem dX12_town_67 : decode cX12_town 67 = .ok (.getfield 39, 3) := by decide +kernel
theorem dX12_town_70 : decode cX12_town 70 = .ok (.iload_n 1, 1) := by decide +kernel
theorem dX12_town_71 : decode cX12_town 71 = .ok (.iload_n 1, 1) := by decide +kernel
theorem dX12_town_72 : decode cX12_town 72 = .ok (.bipush 111, 2) := by decide +kernel
theorem dX12_town_74 : decode cX12_town 74 = .ok (.if_icmp .ge 12, 3) := by decide +kernel
theorem dX12_town_77 : decode cX12_town 77 = .ok (.aload_n 0, 1) := by decide +kernel
theorem dX12_town_78 : decode cX12_town 78 = .ok (.getfield 26, 3) := by decide +kernel
theorem dX12_town_81 : decode cX12_town 81 = .ok (.iload_n 1, 1) := by decide +kernel
theorem dX12_town_82 : decode cX12_town 82 = .ok (.iaload, 1) := by decide +kernel
theorem dX12_town_83 : decode cX12_town 83 = .ok (.goto 4, 3) := by decide +kernel
theorem dX12_town_86 : decode cX12_town 86 = .ok (.iconst 0, 1) := by decide +kernel
theorem dX12_town_87 : decode cX12_town 87 = .ok (.iastore, 1) := by decide +kernel
theorem dX12_town_88 : decode cX12_town 88 = .ok (.iinc 1 1, 3) := by decide +kernel
theorem dX12_town_91 : decode cX12_town 91 = .ok (.goto (-32), 3) := by decide +kernel
theorem dX12_town_94 : decode cX12_town 94 = .ok (.aload_n 0, 1) := by decide +kernel
theorem dX12_town_95 : decode cX12_town 95 = .ok (.getfield 39, 3) := by decide +kernel
theorem dX12_town_98 : decode cX12_town 98 = .ok (.iconst 5, 1) := by decide +kernel
theorem dX12_town_99 : decode cX12_town 99 = .ok (.iaload, 1) := by decide +kernel
theorem dX12_town_100 : decode cX12_town 100 = .ok (.ifCond .ge 20, 3) := by decide +kernel
theorem dX12_town_103 : decode cX12_town 103 = .ok (.aload_n 0, 1) := by decide +kernel
theorem dX12_town_104 : decode cX12_town 104 = .ok (.getfield 39, 3) := by decide +kernel
theorem dX12_town_107 : decode cX12_town 107 = .ok (.iconst 5, 1) := by decide +kernel
theorem dX12_town_108 : decode cX12_town 108 = .ok (.iconst 0, 1) := by decide +kernel
theorem dX12_town_109 : decode cX12_town 109 = .ok (.iastore, 1) := by decide +kernel
theorem dX12_town_110 : decode cX12_town 110 = .ok (.aload_n 0, 1) := by decide +kernel
theorem dX12_town_111 : decode cX12_town 111 = .ok (.getfield 39, 3) := by decide +kernel
theorem dX12_town_114 : decode cX12_town 114 = .ok (.bipush 6, 2) := by decide +kernel
theorem dX12_town_116 : decode cX12_town 116 = .ok (.sipush 9999, 3) := by decide +kernel
theorem dX12_town_119 : decode cX12_town 119 = .ok (.iastore, 1) := by decide +kernel
theorem dX12_town_120 : decode cX12_town 120 = .ok (.aload_n 0, 1) := by decide +kernel
theorem dX12_town_121 : decode cX12_town 121 = .ok (.iconst 0, 1) := by decide +kernel
theorem dX12_town_122 : decode cX12_town 122 = .ok (.putfield 294, 3) := by decide +kernel
theorem dX12_town_125 : decode cX12_town 125 = .ok (.aload_n 0, 1) := by decide +kernel
theorem dX12_town_126 : decode cX12_town 126 = .ok (.getfield 39, 3) := by decide +kernel
theorem dX12_town_129 : decode cX12_town 129 = .ok (.iconst 2, 1) := by decide +kernel
theorem dX12_town_130 : decode cX12_town 130 = .ok (.iaload, 1) := by decide +kernel
theorem dX12_town_131 : decode cX12_town 131 = .ok (.ireturn, 1) := by decide +kernel
theorem dX12_isRule_0 : decode cX12_isRule 0 = .ok (.iload_n 1, 1) := by decide +kernel
theorem dX12_isRule_1 : decode cX12_isRule 1 = .ok (.ifCond .lt 15, 3) := by decide +kernel
theorem dX12_isRule_4 : decode cX12_isRule 4 = .ok (.iload_n 1, 1) := by decide +kernel
theorem dX12_isRule_5 : decode cX12_isRule 5 = .ok (.aload_n 0, 1) := by decide +kernel
theorem dX12_isRule_6 : decode cX12_isRule 6 = .ok (.getfield 288, 3) := by decide +kernel
theorem dX12_isRule_9 : decode cX12_isRule 9 = .ok (.if_icmp .ge 7, 3) := by decide +kernel
theorem dX12_isRule_12 : decode cX12_isRule 12 = .ok (.iconst 1, 1) := by decide +kernel
theorem dX12_isRule_13 : decode cX12_isRule 13 = .ok (.goto 4, 3) := by decide +kernel
theorem dX12_isRule_16 : decode cX12_isRule 16 = .ok (.iconst 0, 1) := by decide +kernel
theorem dX12_isRule_17 : decode cX12_isRule 17 = .ok (.ireturn, 1) := by decide +kernel
theorem dX12_push_0 : decode cX12_push 0 = .ok (.aload_n 0, 1) := by decide +kernel
theorem dX12_push_1 : decode cX12_push 1 = .ok (.getfield 32, 3) := by decide +kernel
theorem dX12_push_4 : decode cX12_push 4 = .ok (.aload_n 0, 1) := by decide +kernel
theorem dX12_push_5 : decode cX12_push 5 = .ok (.getfield 297, 3) := by decide +kernel
theorem dX12_push_8 : decode cX12_push 8 = .ok (.lload_n 1, 1) := by decide +kernel
theorem dX12_push_9 : decode cX12_push 9 = .ok (.lastore, 1) := by decide +kernel
theorem dX12_push_10 : decode cX12_push 10 = .ok (.aload_n 0, 1) := by decide +kernel
theorem dX12_push_11 : decode cX12_push 11 = .ok (.dup, 1) := by decide +kernel
theorem dX12_push_12 : decode cX12_push 12 = .ok (.getfield 297, 3) := by decide +kernel
theorem dX12_push_15 : decode cX12_push 15 = .ok (.iconst 1, 1) := by decide +kernel
theorem dX12_push_16 : decode cX12_push 16 = .ok (.iadd, 1) := by decide +kernel
theorem dX12_push_17 : decode cX12_push 17 = .ok (.putfield 297, 3) := by decide +kernel
theorem dX12_push_20 : decode cX12_push 20 = .ok (.return_, 1) := by decide +kernel
theorem dX12_pop_0 : decode cX12_pop 0 = .ok (.aload_n 0, 1) := by decide +kernel
theorem dX12_pop_1 : decode cX12_pop 1 = .ok (.dup, 1) := by decide +kernel
theorem dX12_pop_2 : decode cX12_pop 2 = .ok (.getfield 297, 3) := by decide +kernel
theorem dX12_pop_5 : decode cX12_pop 5 = .ok (.iconst 1, 1) := by decide +kernel
theorem dX12_pop_6 : decode cX12_pop 6 = .ok (.isub, 1) := by decide +kernel
theorem dX12_pop_7 : decode cX12_pop 7 = .ok (.putfield 297, 3) := by decide +kernel
theorem dX12_pop_10 : decode cX12_pop 10 = .ok (.aload_n 0, 1) := by decide +kernel
theorem dX12_pop_11 : decode cX12_pop 11 = .ok (.getfield 32, 3) := by decide +kernel
theorem dX12_pop_14 : decode cX12_pop 14 = .ok (.aload_n 0, 1) := by decide +kernel
theorem dX12_pop_15 : decode cX12_pop 15 = .ok (.getfield 297, 3) := by decide +kernel
theorem dX12_pop_18 : decode cX12_pop 18 = .ok (.laload, 1) := by decide +kernel
theorem dX12_pop_19 : decode cX12_pop 19 = .ok (.lreturn, 1) := by decide +kernel
theorem dX12_one_0 : decode cX12_one 0 = .ok (.iload_n 0, 1) := by decide +kernel
theorem dX12_one_1 : decode cX12_one 1 = .ok (.tableswitch 171 2 14 #[67, 71, 75, 79, 107, 119, 131, 143, 155, 171, 167, 171, 93], 67) := by decide +kernel
theorem dX12_one_68 : decode cX12_one 68 = .ok (.lload_n 1, 1) := by decide +kernel
theorem dX12_one_69 : decode cX12_one 69 = .ok (.lload_n 3, 1) := by decide +kernel
theorem dX12_one_70 : decode cX12_one 70 = .ok (.ladd, 1) := by decide +kernel
theorem dX12_one_71 : decode cX12_one 71 = .ok (.lreturn, 1) := by decide +kernel
theorem dX12_one_72 : decode cX12_one 72 = .ok (.lload_n 1, 1) := by decide +kernel
theorem dX12_one_73 : decode cX12_one 73 = .ok (.lload_n 3, 1) := by decide +kernel
theorem dX12_one_74 : decode cX12_one 74 = .ok (.lsub, 1) := by decide +kernel
theorem dX12_one_75 : decode cX12_one 75 = .ok (.lreturn, 1) := by decide +kernel
theorem dX12_one_76 : decode cX12_one 76 = .ok (.lload_n 1, 1) := by decide +kernel
theorem dX12_one_77 : decode cX12_one 77 = .ok (.lload_n 3, 1) := by decide +kernel
theorem dX12_one_78 : decode cX12_one 78 = .ok (.lmul, 1) := by decide +kernel
theorem dX12_one_79 : decode cX12_one 79 = .ok (.lreturn, 1) := by decide +kernel
theorem dX12_one_80 : decode cX12_one 80 = .ok (.lload_n 3, 1) := by decide +kernel
theorem dX12_one_81 : decode cX12_one 81 = .ok (.lconst 0, 1) := by decide +kernel
theorem dX12_one_82 : decode cX12_one 82 = .ok (.lcmp, 1) := by decide +kernel
theorem dX12_one_83 : decode cX12_one 83 = .ok (.ifCond .ne 7, 3) := by decide +kernel
theorem dX12_one_86 : decode cX12_one 86 = .ok (.lconst 0, 1) := by decide +kernel
theorem dX12_one_87 : decode cX12_one 87 = .ok (.goto 6, 3) := by decide +kernel
theorem dX12_one_90 : decode cX12_one 90 = .ok (.lload_n 1, 1) := by decide +kernel
theorem dX12_one_91 : decode cX12_one 91 = .ok (.lload_n 3, 1) := by decide +kernel
theorem dX12_one_92 : decode cX12_one 92 = .ok (.ldiv, 1) := by decide +kernel
theorem dX12_one_93 : decode cX12_one 93 = .ok (.lreturn, 1) := by decide +kernel
theorem dX12_one_94 : decode cX12_one 94 = .ok (.lload_n 3, 1) := by decide +kernel
theorem dX12_one_95 : decode cX12_one 95 = .ok (.lconst 0, 1) := by decide +kernel
theorem dX12_one_96 : decode cX12_one 96 = .ok (.lcmp, 1) := by decide +kernel
theorem dX12_one_97 : decode cX12_one 97 = .ok (.ifCond .ne 7, 3) := by decide +kernel
theorem dX12_one_100 : decode cX12_one 100 = .ok (.lconst 0, 1) := by decide +kernel
theorem dX12_one_101 : decode cX12_one 101 = .ok (.goto 6, 3) := by decide +kernel
theorem dX12_one_104 : decode cX12_one 104 = .ok (.lload_n 1, 1) := by decide +kernel
theorem dX12_one_105 : decode cX12_one 105 = .ok (.lload_n 3, 1) := by decide +kernel
theorem dX12_one_106 : decode cX12_one 106 = .ok (.lrem, 1) := by decide +kernel
theorem dX12_one_107 : decode cX12_one 107 = .ok (.lreturn, 1) := by decide +kernel
theorem dX12_one_108 : decode cX12_one 108 = .ok (.lload_n 1, 1) := by decide +kernel
theorem dX12_one_109 : decode cX12_one 109 = .ok (.lload_n 3, 1) := by decide +kernel
theorem dX12_one_110 : decode cX12_one 110 = .ok (.lcmp, 1) := by decide +kernel
theorem dX12_one_111 : decode cX12_one 111 = .ok (.ifCond .ge 7, 3) := by decide +kernel
theorem dX12_one_114 : decode cX12_one 114 = .ok (.lconst 1, 1) := by decide +kernel
theorem dX12_one_115 : decode cX12_one 115 = .ok (.goto 4, 3) := by decide +kernel
theorem dX12_one_118 : decode cX12_one 118 = .ok (.lconst 0, 1) := by decide +kernel
theorem dX12_one_119 : decode cX12_one 119 = .ok (.lreturn, 1) := by decide +kernel
theorem dX12_one_120 : decode cX12_one 120 = .ok (.lload_n 1, 1) := by decide +kernel
theorem dX12_one_121 : decode cX12_one 121 = .ok (.lload_n 3, 1) := by decide +kernel
theorem dX12_one_122 : decode cX12_one 122 = .ok (.lcmp, 1) := by decide +kernel
theorem dX12_one_123 : decode cX12_one 123 = .ok (.ifCond .gt 7, 3) := by decide +kernel
theorem dX12_one_126 : decode cX12_one 126 = .ok (.lconst 1, 1) := by decide +kernel
theorem dX12_one_127 : decode cX12_one 127 = .ok (.goto 4, 3) := by decide +kernel
theorem dX12_one_130 : decode cX12_one 130 = .ok (.lconst 0, 1) := by decide +kernel
theorem dX12_one_131 : decode cX12_one 131 = .ok (.lreturn, 1) := by decide +kernel
theorem dX12_one_132 : decode cX12_one 132 = .ok (.lload_n 1, 1) := by decide +kernel
theorem dX12_one_133 : decode cX12_one 133 = .ok (.lload_n 3, 1) := by decide +kernel
theorem dX12_one_134 : decode cX12_one 134 = .ok (.lcmp, 1) := by decide +kernel
theorem dX12_one_135 : decode cX12_one 135 = .ok (.ifCond .ne 7, 3) := by decide +kernel
theorem dX12_one_138 : decode cX12_one 138 = .ok (.lconst 1, 1) := by decide +kernel
theorem dX12_one_139 : decode cX12_one 139 = .ok (.goto 4, 3) := by decide +kernel
theorem dX12_one_142 : decode cX12_one 142 = .ok (.lconst 0, 1) := by decide +kernel
theorem dX12_one_143 : decode cX12_one 143 = .ok (.lreturn, 1) := by decide +kernel
theorem dX12_one_144 : decode cX12_one 144 = .ok (.lload_n 1, 1) := by decide +kernel
theorem dX12_one_145 : decode cX12_one 145 = .ok (.lload_n 3, 1) := by decide +kernel
theorem dX12_one_146 : decode cX12_one 146 = .ok (.lcmp, 1) := by decide +kernel
theorem dX12_one_147 : decode cX12_one 147 = .ok (.ifCond .lt 7, 3) := by decide +kernel
theorem dX12_one_150 : decode cX12_one 150 = .ok (.lconst 1, 1) := by decide +kernel
theorem dX12_one_151 : decode cX12_one 151 = .ok (.goto 4, 3) := by decide +kernel
theorem dX12_one_154 : decode cX12_one 154 = .ok (.lconst 0, 1) := by decide +kernel
theorem dX12_one_155 : decode cX12_one 155 = .ok (.lreturn, 1) := by decide +kernel
theorem dX12_one_156 : decode cX12_one 156 = .ok (.lload_n 1, 1) := by decide +kernel
theorem dX12_one_157 : decode cX12_one 157 = .ok (.lload_n 3, 1) := by decide +kernel
theorem dX12_one_158 : decode cX12_one 158 = .ok (.lcmp, 1) := by decide +kernel
theorem dX12_one_159 : decode cX12_one 159 = .ok (.ifCond .le 7, 3) := by decide +kernel
theorem dX12_one_162 : decode cX12_one 162 = .ok (.lconst 1, 1) := by decide +kernel
theorem dX12_one_163 : decode cX12_one 163 = .ok (.goto 4, 3) := by decide +kernel
theorem dX12_one_166 : decode cX12_one 166 = .ok (.lconst 0, 1) := by decide +kernel
theorem dX12_one_167 : decode cX12_one 167 = .ok (.lreturn, 1) := by decide +kernel
theorem dX12_one_168 : decode cX12_one 168 = .ok (.lload_n 1, 1) := by decide +kernel
theorem dX12_one_169 : decode cX12_one 169 = .ok (.lload_n 3, 1) := by decide +kernel
theorem dX12_one_170 : decode cX12_one 170 = .ok (.land, 1) := by decide +kernel
theorem dX12_one_171 : decode cX12_one 171 = .ok (.lreturn, 1) := by decide +kernel
theorem dX12_one_172 : decode cX12_one 172 = .ok (.lload_n 1, 1) := by decide +kernel
theorem dX12_one_173 : decode cX12_one 173 = .ok (.lload_n 3, 1) := by decide +kernel
theorem dX12_one_174 : decode cX12_one 174 = .ok (.lor, 1) := by decide +kernel
theorem dX12_one_175 : decode cX12_one 175 = .ok (.lreturn, 1) := by decide +kernel
theorem dX12_reckons_0 : decode cX12_reckons 0 = .ok (.aload_n 0, 1) := by decide +kernel
theorem dX12_reckons_1 : decode cX12_reckons 1 = .ok (.iconst 0, 1) := by decide +kernel
theorem dX12_reckons_2 : decode cX12_reckons 2 = .ok (.putfield 297, 3) := by decide +kernel
theorem dX12_reckons_5 : decode cX12_reckons 5 = .ok (.iload_n 2, 1) := by decide +kernel
theorem dX12_reckons_6 : decode cX12_reckons 6 = .ok (.istore 4, 2) := by decide +kernel
theorem dX12_reckons_8 : decode cX12_reckons 8 = .ok (.iload 4, 2) := by decide +kernel
theorem dX12_reckons_10 : decode cX12_reckons 10 = .ok (.iload_n 3, 1) := by decide +kernel
theorem dX12_reckons_11 : decode cX12_reckons 11 = .ok (.if_icmp .ge 124, 3) := by decide +kernel
theorem dX12_reckons_14 : decode cX12_reckons 14 = .ok (.aload_n 0, 1) := by decide +kernel
theorem dX12_reckons_15 : decode cX12_reckons 15 = .ok (.getfield 13, 3) := by decide +kernel
theorem dX12_reckons_18 : decode cX12_reckons 18 = .ok (.sipush 400, 3) := by decide +kernel
theorem dX12_reckons_21 : decode cX12_reckons 21 = .ok (.iload_n 1, 1) := by decide +kernel
theorem dX12_reckons_22 : decode cX12_reckons 22 = .ok (.imul, 1) := by decide +kernel
theorem dX12_reckons_23 : decode cX12_reckons 23 = .ok (.iload 4, 2) := by decide +kernel
theorem dX12_reckons_25 : decode cX12_reckons 25 = .ok (.iadd, 1) := by decide +kernel
theorem dX12_reckons_26 : decode cX12_reckons 26 = .ok (.iaload, 1) := by decide +kernel
theorem dX12_reckons_27 : decode cX12_reckons 27 = .ok (.bipush 15, 2) := by decide +kernel
theorem dX12_reckons_29 : decode cX12_reckons 29 = .ok (.iand, 1) := by decide +kernel
theorem dX12_reckons_30 : decode cX12_reckons 30 = .ok (.istore 5, 2) := by decide +kernel
theorem dX12_reckons_32 : decode cX12_reckons 32 = .ok (.aload_n 0, 1) := by decide +kernel
theorem dX12_reckons_33 : decode cX12_reckons 33 = .ok (.getfield 13, 3) := by decide +kernel
theorem dX12_reckons_36 : decode cX12_reckons 36 = .ok (.sipush 400, 3) := by decide +kernel
theorem dX12_reckons_39 : decode cX12_reckons 39 = .ok (.iload_n 1, 1) := by decide +kernel
theorem dX12_reckons_40 : decode cX12_reckons 40 = .ok (.imul, 1) := by decide +kernel
theorem dX12_reckons_41 : decode cX12_reckons 41 = .ok (.iload 4, 2) := by decide +kernel
theorem dX12_reckons_43 : decode cX12_reckons 43 = .ok (.iadd, 1) := by decide +kernel
theorem dX12_reckons_44 : decode cX12_reckons 44 = .ok (.iaload, 1) := by decide +kernel
theorem dX12_reckons_45 : decode cX12_reckons 45 = .ok (.iconst 4, 1) := by decide +kernel
theorem dX12_reckons_46 : decode cX12_reckons 46 = .ok (.ishr, 1) := by decide +kernel
theorem dX12_reckons_47 : decode cX12_reckons 47 = .ok (.istore 6, 2) := by decide +kernel
theorem dX12_reckons_49 : decode cX12_reckons 49 = .ok (.iload 5, 2) := by decide +kernel
theorem dX12_reckons_51 : decode cX12_reckons 51 = .ok (.ifCond .ne 13, 3) := by decide +kernel
theorem dX12_reckons_54 : decode cX12_reckons 54 = .ok (.aload_n 0, 1) := by decide +kernel
theorem dX12_reckons_55 : decode cX12_reckons 55 = .ok (.iload 6, 2) := by decide +kernel
theorem dX12_reckons_57 : decode cX12_reckons 57 = .ok (.i2l, 1) := by decide +kernel
theorem dX12_reckons_58 : decode cX12_reckons 58 = .ok (.invokevirtual 300, 3) := by decide +kernel
theorem dX12_reckons_61 : decode cX12_reckons 61 = .ok (.goto 68, 3) := by decide +kernel
theorem dX12_reckons_64 : decode cX12_reckons 64 = .ok (.iload 5, 2) := by decide +kernel
theorem dX12_reckons_66 : decode cX12_reckons 66 = .ok (.iconst 1, 1) := by decide +kernel
theorem dX12_reckons_67 : decode cX12_reckons 67 = .ok (.if_icmp .ne 17, 3) := by decide +kernel
theorem dX12_reckons_70 : decode cX12_reckons 70 = .ok (.aload_n 0, 1) := by decide +kernel
theorem dX12_reckons_71 : decode cX12_reckons 71 = .ok (.aload_n 0, 1) := by decide +kernel
theorem dX12_reckons_72 : decode cX12_reckons 72 = .ok (.getfield 36, 3) := by decide +kernel
theorem dX12_reckons_75 : decode cX12_reckons 75 = .ok (.iload 6, 2) := by decide +kernel
theorem dX12_reckons_77 : decode cX12_reckons 77 = .ok (.laload, 1) := by decide +kernel
theorem dX12_reckons_78 : decode cX12_reckons 78 = .ok (.invokevirtual 300, 3) := by decide +kernel
theorem dX12_reckons_81 : decode cX12_reckons 81 = .ok (.goto 48, 3) := by decide +kernel
theorem dX12_reckons_84 : decode cX12_reckons 84 = .ok (.iload 5, 2) := by decide +kernel
theorem dX12_reckons_86 : decode cX12_reckons 86 = .ok (.bipush 11, 2) := by decide +kernel
theorem dX12_reckons_88 : decode cX12_reckons 88 = .ok (.if_icmp .ne 16, 3) := by decide +kernel
theorem dX12_reckons_91 : decode cX12_reckons 91 = .ok (.aload_n 0, 1) := by decide +kernel
theorem dX12_reckons_92 : decode cX12_reckons 92 = .ok (.lconst 1, 1) := by decide +kernel
theorem dX12_reckons_93 : decode cX12_reckons 93 = .ok (.aload_n 0, 1) := by decide +kernel
theorem dX12_reckons_94 : decode cX12_reckons 94 = .ok (.invokevirtual 304, 3) := by decide +kernel
theorem dX12_reckons_97 : decode cX12_reckons 97 = .ok (.lsub, 1) := by decide +kernel
theorem dX12_reckons_98 : decode cX12_reckons 98 = .ok (.invokevirtual 300, 3) := by decide +kernel
theorem dX12_reckons_101 : decode cX12_reckons 101 = .ok (.goto 28, 3) := by decide +kernel
theorem dX12_reckons_104 : decode cX12_reckons 104 = .ok (.aload_n 0, 1) := by decide +kernel
theorem dX12_reckons_105 : decode cX12_reckons 105 = .ok (.invokevirtual 304, 3) := by decide +kernel
theorem dX12_reckons_108 : decode cX12_reckons 108 = .ok (.lstore 7, 2) := by decide +kernel
theorem dX12_reckons_110 : decode cX12_reckons 110 = .ok (.aload_n 0, 1) := by decide +kernel
theorem dX12_reckons_111 : decode cX12_reckons 111 = .ok (.invokevirtual 304, 3) := by decide +kernel
theorem dX12_reckons_114 : decode cX12_reckons 114 = .ok (.lstore 9, 2) := by decide +kernel
theorem dX12_reckons_116 : decode cX12_reckons 116 = .ok (.aload_n 0, 1) := by decide +kernel
theorem dX12_reckons_117 : decode cX12_reckons 117 = .ok (.iload 5, 2) := by decide +kernel
theorem dX12_reckons_119 : decode cX12_reckons 119 = .ok (.lload 9, 2) := by decide +kernel
theorem dX12_reckons_121 : decode cX12_reckons 121 = .ok (.lload 7, 2) := by decide +kernel
theorem dX12_reckons_123 : decode cX12_reckons 123 = .ok (.invokestatic 308, 3) := by decide +kernel
theorem dX12_reckons_126 : decode cX12_reckons 126 = .ok (.invokevirtual 300, 3) := by decide +kernel
theorem dX12_reckons_129 : decode cX12_reckons 129 = .ok (.iinc 4 1, 3) := by decide +kernel
theorem dX12_reckons_132 : decode cX12_reckons 132 = .ok (.goto (-124), 3) := by decide +kernel
theorem dX12_reckons_135 : decode cX12_reckons 135 = .ok (.aload_n 0, 1) := by decide +kernel
theorem dX12_reckons_136 : decode cX12_reckons 136 = .ok (.invokevirtual 304, 3) := by decide +kernel
theorem dX12_reckons_139 : decode cX12_reckons 139 = .ok (.lreturn, 1) := by decide +kernel
theorem dX12_isTown_0 : decode cX12_isTown 0 = .ok (.aload_n 0, 1) := by decide +kernel
theorem dX12_isTown_1 : decode cX12_isTown 1 = .ok (.getfield 39, 3) := by decide +kernel
theorem dX12_isTown_4 : decode cX12_isTown 4 = .ok (.iconst 0, 1) := by decide +kernel
theorem dX12_isTown_5 : decode cX12_isTown 5 = .ok (.iaload, 1) := by decide +kernel
theorem dX12_isTown_6 : decode cX12_isTown 6 = .ok (.ifCond .le 7, 3) := by decide +kernel
theorem dX12_isTown_9 : decode cX12_isTown 9 = .ok (.iconst 1, 1) := by decide +kernel
theorem dX12_isTown_10 : decode cX12_isTown 10 = .ok (.goto 4, 3) := by decide +kernel
theorem dX12_isTown_13 : decode cX12_isTown 13 = .ok (.iconst 0, 1) := by decide +kernel
theorem dX12_isTown_14 : decode cX12_isTown 14 = .ok (.ireturn, 1) := by decide +kernel
theorem dX12_isPerson_0 : decode cX12_isPerson 0 = .ok (.iload_n 1, 1) := by decide +kernel
theorem dX12_isPerson_1 : decode cX12_isPerson 1 = .ok (.ifCond .lt 17, 3) := by decide +kernel
theorem dX12_isPerson_4 : decode cX12_isPerson 4 = .ok (.iload_n 1, 1) := by decide +kernel
theorem dX12_isPerson_5 : decode cX12_isPerson 5 = .ok (.aload_n 0, 1) := by decide +kernel
theorem dX12_isPerson_6 : decode cX12_isPerson 6 = .ok (.getfield 39, 3) := by decide +kernel
theorem dX12_isPerson_9 : decode cX12_isPerson 9 = .ok (.iconst 2, 1) := by decide +kernel
theorem dX12_isPerson_10 : decode cX12_isPerson 10 = .ok (.iaload, 1) := by decide +kernel
theorem dX12_isPerson_11 : decode cX12_isPerson 11 = .ok (.if_icmp .ge 7, 3) := by decide +kernel
theorem dX12_isPerson_14 : decode cX12_isPerson 14 = .ok (.iconst 1, 1) := by decide +kernel
theorem dX12_isPerson_15 : decode cX12_isPerson 15 = .ok (.goto 4, 3) := by decide +kernel
theorem dX12_isPerson_18 : decode cX12_isPerson 18 = .ok (.iconst 0, 1) := by decide +kernel
theorem dX12_isPerson_19 : decode cX12_isPerson 19 = .ok (.ireturn, 1) := by decide +kernel
theorem dX12_isCase_0 : decode cX12_isCase 0 = .ok (.iload_n 1, 1) := by decide +kernel
theorem dX12_isCase_1 : decode cX12_isCase 1 = .ok (.ifCond .lt 17, 3) := by decide +kernel
theorem dX12_isCase_4 : decode cX12_isCase 4 = .ok (.iload_n 1, 1) := by decide +kernel
theorem dX12_isCase_5 : decode cX12_isCase 5 = .ok (.aload_n 0, 1) := by decide +kernel
theorem dX12_isCase_6 : decode cX12_isCase 6 = .ok (.getfield 39, 3) := by decide +kernel
theorem dX12_isCase_9 : decode cX12_isCase 9 = .ok (.iconst 3, 1) := by decide +kernel
theorem dX12_isCase_10 : decode cX12_isCase 10 = .ok (.iaload, 1) := by decide +kernel
theorem dX12_isCase_11 : decode cX12_isCase 11 = .ok (.if_icmp .ge 7, 3) := by decide +kernel
theorem dX12_isCase_14 : decode cX12_isCase 14 = .ok (.iconst 1, 1) := by decide +kernel
theorem dX12_isCase_15 : decode cX12_isCase 15 = .ok (.goto 4, 3) := by decide +kernel
theorem dX12_isCase_18 : decode cX12_isCase 18 = .ok (.iconst 0, 1) := by decide +kernel
theorem dX12_isCase_19 : decode cX12_isCase 19 = .ok (.ireturn, 1) := by decide +kernel
theorem dX12_personOf_0 : decode cX12_personOf 0 = .ok (.aload_n 0, 1) := by decide +kernel
theorem dX12_personOf_1 : decode cX12_personOf 1 = .ok (.getfield 39, 3) := by decide +kernel
theorem dX12_personOf_4 : decode cX12_personOf 4 = .ok (.bipush 10, 2) := by decide +kernel
theorem dX12_personOf_6 : decode cX12_personOf 6 = .ok (.iconst 5, 1) := by decide +kernel
theorem dX12_personOf_7 : decode cX12_personOf 7 = .ok (.iload_n 1, 1) := by decide +kernel
theorem dX12_personOf_8 : decode cX12_personOf 8 = .ok (.imul, 1) := by decide +kernel
theorem dX12_personOf_9 : decode cX12_personOf 9 = .ok (.iadd, 1) := by decide +kernel
theorem dX12_personOf_10 : decode cX12_personOf 10 = .ok (.iload_n 2, 1) := by decide +kernel
theorem dX12_personOf_11 : decode cX12_personOf 11 = .ok (.iadd, 1) := by decide +kernel
theorem dX12_personOf_12 : decode cX12_personOf 12 = .ok (.iaload, 1) := by decide +kernel
theorem dX12_personOf_13 : decode cX12_personOf 13 = .ok (.ireturn, 1) := by decide +kernel
theorem dX12_caseOf_0 : decode cX12_caseOf 0 = .ok (.aload_n 0, 1) := by decide +kernel
theorem dX12_caseOf_1 : decode cX12_caseOf 1 = .ok (.getfield 39, 3) := by decide +kernel
theorem dX12_caseOf_4 : decode cX12_caseOf 4 = .ok (.bipush 45, 2) := by decide +kernel
theorem dX12_caseOf_6 : decode cX12_caseOf 6 = .ok (.bipush 11, 2) := by decide +kernel
theorem dX12_caseOf_8 : decode cX12_caseOf 8 = .ok (.iload_n 1, 1) := by decide +kernel
theorem dX12_caseOf_9 : decode cX12_caseOf 9 = .ok (.imul, 1) := by decide +kernel
theorem dX12_caseOf_10 : decode cX12_caseOf 10 = .ok (.iadd, 1) := by decide +kernel
theorem dX12_caseOf_11 : decode cX12_caseOf 11 = .ok (.iload_n 2, 1) := by decide +kernel
theorem dX12_caseOf_12 : decode cX12_caseOf 12 = .ok (.iadd, 1) := by decide +kernel
theorem dX12_caseOf_13 : decode cX12_caseOf 13 = .ok (.iaload, 1) := by decide +kernel
theorem dX12_caseOf_14 : decode cX12_caseOf 14 = .ok (.ireturn, 1) := by decide +kernel
theorem dX12_ageOn_0 : decode cX12_ageOn 0 = .ok (.aload_n 0, 1) := by decide +kernel
theorem dX12_ageOn_1 : decode cX12_ageOn 1 = .ok (.iload_n 1, 1) := by decide +kernel
theorem dX12_ageOn_2 : decode cX12_ageOn 2 = .ok (.iconst 0, 1) := by decide +kernel
theorem dX12_ageOn_3 : decode cX12_ageOn 3 = .ok (.invokevirtual 312, 3) := by decide +kernel
theorem dX12_ageOn_6 : decode cX12_ageOn 6 = .ok (.iload_n 2, 1) := by decide +kernel
theorem dX12_ageOn_7 : decode cX12_ageOn 7 = .ok (.iadd, 1) := by decide +kernel
theorem dX12_ageOn_8 : decode cX12_ageOn 8 = .ok (.ireturn, 1) := by decide +kernel
theorem dX12_sitsOn_0 : decode cX12_sitsOn 0 = .ok (.aload_n 0, 1) := by decide +kernel
theorem dX12_sitsOn_1 : decode cX12_sitsOn 1 = .ok (.iload_n 1, 1) := by decide +kernel
theorem dX12_sitsOn_2 : decode cX12_sitsOn 2 = .ok (.iload_n 2, 1) := by decide +kernel
theorem dX12_sitsOn_3 : decode cX12_sitsOn 3 = .ok (.invokevirtual 316, 3) := by decide +kernel
theorem dX12_sitsOn_6 : decode cX12_sitsOn 6 = .ok (.i2l, 1) := by decide +kernel
theorem dX12_sitsOn_7 : decode cX12_sitsOn 7 = .ok (.aload_n 0, 1) := by decide +kernel
theorem dX12_sitsOn_8 : decode cX12_sitsOn 8 = .ok (.getfield 39, 3) := by decide +kernel
theorem dX12_sitsOn_11 : decode cX12_sitsOn 11 = .ok (.iconst 5, 1) := by decide +kernel
theorem dX12_sitsOn_12 : decode cX12_sitsOn 12 = .ok (.iaload, 1) := by decide +kernel
theorem dX12_sitsOn_13 : decode cX12_sitsOn 13 = .ok (.i2l, 1) := by decide +kernel
theorem dX12_sitsOn_14 : decode cX12_sitsOn 14 = .ok (.aload_n 0, 1) := by decide +kernel
theorem dX12_sitsOn_15 : decode cX12_sitsOn 15 = .ok (.getfield 39, 3) := by decide +kernel
theorem dX12_sitsOn_18 : decode cX12_sitsOn 18 = .ok (.bipush 6, 2) := by decide +kernel
theorem dX12_sitsOn_20 : decode cX12_sitsOn 20 = .ok (.iaload, 1) := by decide +kernel
theorem dX12_sitsOn_21 : decode cX12_sitsOn 21 = .ok (.i2l, 1) := by decide +kernel
theorem dX12_sitsOn_22 : decode cX12_sitsOn 22 = .ok (.invokestatic 142, 3) := by decide +kernel
theorem dX12_sitsOn_25 : decode cX12_sitsOn 25 = .ok (.ireturn, 1) := by decide +kernel
theorem dX12_birthdayIn_0 : decode cX12_birthdayIn 0 = .ok (.aload_n 0, 1) := by decide +kernel
theorem dX12_birthdayIn_1 : decode cX12_birthdayIn 1 = .ok (.getfield 39, 3) := by decide +kernel
theorem dX12_birthdayIn_4 : decode cX12_birthdayIn 4 = .ok (.iconst 1, 1) := by decide +kernel
theorem dX12_birthdayIn_5 : decode cX12_birthdayIn 5 = .ok (.iaload, 1) := by decide +kernel
theorem dX12_birthdayIn_6 : decode cX12_birthdayIn 6 = .ok (.aload_n 0, 1) := by decide +kernel
theorem dX12_birthdayIn_7 : decode cX12_birthdayIn 7 = .ok (.iload_n 1, 1) := by decide +kernel
theorem dX12_birthdayIn_8 : decode cX12_birthdayIn 8 = .ok (.iload_n 2, 1) := by decide +kernel
theorem dX12_birthdayIn_9 : decode cX12_birthdayIn 9 = .ok (.invokevirtual 316, 3) := by decide +kernel
theorem dX12_birthdayIn_12 : decode cX12_birthdayIn 12 = .ok (.aload_n 0, 1) := by decide +kernel
theorem dX12_birthdayIn_13 : decode cX12_birthdayIn 13 = .ok (.getfield 39, 3) := by decide +kernel
theorem dX12_birthdayIn_16 : decode cX12_birthdayIn 16 = .ok (.iconst 1, 1) := by decide +kernel
theorem dX12_birthdayIn_17 : decode cX12_birthdayIn 17 = .ok (.iaload, 1) := by decide +kernel
theorem dX12_birthdayIn_18 : decode cX12_birthdayIn 18 = .ok (.irem, 1) := by decide +kernel
theorem dX12_birthdayIn_19 : decode cX12_birthdayIn 19 = .ok (.isub, 1) := by decide +kernel
theorem dX12_birthdayIn_20 : decode cX12_birthdayIn 20 = .ok (.ireturn, 1) := by decide +kernel
theorem dX12_isYounger_0 : decode cX12_isYounger 0 = .ok (.aload_n 0, 1) := by decide +kernel
theorem dX12_isYounger_1 : decode cX12_isYounger 1 = .ok (.iload_n 2, 1) := by decide +kernel
theorem dX12_isYounger_2 : decode cX12_isYounger 2 = .ok (.iconst 0, 1) := by decide +kernel
theorem dX12_isYounger_3 : decode cX12_isYounger 3 = .ok (.invokevirtual 312, 3) := by decide +kernel
theorem dX12_isYounger_6 : decode cX12_isYounger 6 = .ok (.aload_n 0, 1) := by decide +kernel
theorem dX12_isYounger_7 : decode cX12_isYounger 7 = .ok (.iload_n 1, 1) := by decide +kernel
theorem dX12_isYounger_8 : decode cX12_isYounger 8 = .ok (.iconst 0, 1) := by decide +kernel
theorem dX12_isYounger_9 : decode cX12_isYounger 9 = .ok (.invokevirtual 312, 3) := by decide +kernel
theorem dX12_isYounger_12 : decode cX12_isYounger 12 = .ok (.isub, 1) := by decide +kernel
theorem dX12_isYounger_13 : decode cX12_isYounger 13 = .ok (.aload_n 0, 1) := by decide +kernel
theorem dX12_isYounger_14 : decode cX12_isYounger 14 = .ok (.getfield 39, 3) := by decide +kernel
theorem dX12_isYounger_17 : decode cX12_isYounger 17 = .ok (.iconst 0, 1) := by decide +kernel
theorem dX12_isYounger_18 : decode cX12_isYounger 18 = .ok (.iaload, 1) := by decide +kernel
theorem dX12_isYounger_19 : decode cX12_isYounger 19 = .ok (.if_icmp .lt 7, 3) := by decide +kernel
theorem dX12_isYounger_22 : decode cX12_isYounger 22 = .ok (.iconst 1, 1) := by decide +kernel
theorem dX12_isYounger_23 : decode cX12_isYounger 23 = .ok (.goto 4, 3) := by decide +kernel
theorem dX12_isYounger_26 : decode cX12_isYounger 26 = .ok (.iconst 0, 1) := by decide +kernel
theorem dX12_isYounger_27 : decode cX12_isYounger 27 = .ok (.ireturn, 1) := by decide +kernel
theorem dX12_canSit_0 : decode cX12_canSit 0 = .ok (.aload_n 0, 1) := by decide +kernel
theorem dX12_canSit_1 : decode cX12_canSit 1 = .ok (.iload_n 1, 1) := by decide +kernel
theorem dX12_canSit_2 : decode cX12_canSit 2 = .ok (.iload_n 2, 1) := by decide +kernel
theorem dX12_canSit_3 : decode cX12_canSit 3 = .ok (.invokevirtual 319, 3) := by decide +kernel
theorem dX12_canSit_6 : decode cX12_canSit 6 = .ok (.ifCond .eq 16, 3) := by decide +kernel
theorem dX12_canSit_9 : decode cX12_canSit 9 = .ok (.aload_n 0, 1) := by decide +kernel
theorem dX12_canSit_10 : decode cX12_canSit 10 = .ok (.iload_n 2, 1) := by decide +kernel
theorem dX12_canSit_11 : decode cX12_canSit 11 = .ok (.iconst 3, 1) := by decide +kernel
theorem dX12_canSit_12 : decode cX12_canSit 12 = .ok (.invokevirtual 312, 3) := by decide +kernel
theorem dX12_canSit_15 : decode cX12_canSit 15 = .ok (.iload_n 1, 1) := by decide +kernel
theorem dX12_canSit_16 : decode cX12_canSit 16 = .ok (.invokestatic 322, 3) := by decide +kernel
theorem dX12_canSit_19 : decode cX12_canSit 19 = .ok (.ifCond .eq 5, 3) := by decide +kernel
theorem dX12_canSit_22 : decode cX12_canSit 22 = .ok (.iconst 0, 1) := by decide +kernel
theorem dX12_canSit_23 : decode cX12_canSit 23 = .ok (.ireturn, 1) := by decide +kernel
theorem dX12_canSit_24 : decode cX12_canSit 24 = .ok (.iload 4, 2) := by decide +kernel
theorem dX12_canSit_26 : decode cX12_canSit 26 = .ok (.istore 5, 2) := by decide +kernel
theorem dX12_canSit_28 : decode cX12_canSit 28 = .ok (.iload 5, 2) := by decide +kernel
theorem dX12_canSit_30 : decode cX12_canSit 30 = .ok (.iload 4, 2) := by decide +kernel
theorem dX12_canSit_32 : decode cX12_canSit 32 = .ok (.iload_n 3, 1) := by decide +kernel
theorem dX12_canSit_33 : decode cX12_canSit 33 = .ok (.iadd, 1) := by decide +kernel
theorem dX12_canSit_34 : decode cX12_canSit 34 = .ok (.if_icmp .ge 37, 3) := by decide +kernel
theorem dX12_canSit_37 : decode cX12_canSit 37 = .ok (.aload_n 0, 1) := by decide +kernel
theorem dX12_canSit_38 : decode cX12_canSit 38 = .ok (.iload_n 1, 1) := by decide +kernel
theorem dX12_canSit_39 : decode cX12_canSit 39 = .ok (.iload 5, 2) := by decide +kernel
theorem dX12_canSit_41 : decode cX12_canSit 41 = .ok (.invokevirtual 325, 3) := by decide +kernel
theorem dX12_canSit_44 : decode cX12_canSit 44 = .ok (.ifCond .eq 19, 3) := by decide +kernel
theorem dX12_canSit_47 : decode cX12_canSit 47 = .ok (.aload_n 0, 1) := by decide +kernel
theorem dX12_canSit_48 : decode cX12_canSit 48 = .ok (.iload_n 1, 1) := by decide +kernel
theorem dX12_canSit_49 : decode cX12_canSit 49 = .ok (.iload 5, 2) := by decide +kernel
theorem dX12_canSit_51 : decode cX12_canSit 51 = .ok (.invokevirtual 328, 3) := by decide +kernel
theorem dX12_canSit_54 : decode cX12_canSit 54 = .ok (.aload_n 0, 1) := by decide +kernel
theorem dX12_canSit_55 : decode cX12_canSit 55 = .ok (.getfield 39, 3) := by decide +kernel
theorem dX12_canSit_58 : decode cX12_canSit 58 = .ok (.iconst 1, 1) := by decide +kernel
theorem dX12_canSit_59 : decode cX12_canSit 59 = .ok (.iaload, 1) := by decide +kernel
theorem dX12_canSit_60 : decode cX12_canSit 60 = .ok (.if_icmp .ne 5, 3) := by decide +kernel
theorem dX12_canSit_63 : decode cX12_canSit 63 = .ok (.iconst 0, 1) := by decide +kernel
theorem dX12_canSit_64 : decode cX12_canSit 64 = .ok (.ireturn, 1) := by decide +kernel
theorem dX12_canSit_65 : decode cX12_canSit 65 = .ok (.iinc 5 1, 3) := by decide +kernel
theorem dX12_canSit_68 : decode cX12_canSit 68 = .ok (.goto (-40), 3) := by decide +kernel
theorem dX12_canSit_71 : decode cX12_canSit 71 = .ok (.iconst 1, 1) := by decide +kernel
theorem dX12_canSit_72 : decode cX12_canSit 72 = .ok (.ireturn, 1) := by decide +kernel
theorem dX12_canHear_0 : decode cX12_canHear 0 = .ok (.iload_n 3, 1) := by decide +kernel
theorem dX12_canHear_1 : decode cX12_canHear 1 = .ok (.aload_n 0, 1) := by decide +kernel
theorem dX12_canHear_2 : decode cX12_canHear 2 = .ok (.iload_n 1, 1) := by decide +kernel
theorem dX12_canHear_3 : decode cX12_canHear 3 = .ok (.iconst 3, 1) := by decide +kernel
theorem dX12_canHear_4 : decode cX12_canHear 4 = .ok (.invokevirtual 331, 3) := by decide +kernel
theorem dX12_canHear_7 : decode cX12_canHear 7 = .ok (.if_icmp .lt 28, 3) := by decide +kernel
theorem dX12_canHear_10 : decode cX12_canHear 10 = .ok (.aload_n 0, 1) := by decide +kernel
theorem dX12_canHear_11 : decode cX12_canHear 11 = .ok (.iload_n 2, 1) := by decide +kernel
theorem dX12_canHear_12 : decode cX12_canHear 12 = .ok (.aload_n 0, 1) := by decide +kernel
theorem dX12_canHear_13 : decode cX12_canHear 13 = .ok (.iload_n 1, 1) := by decide +kernel
theorem dX12_canHear_14 : decode cX12_canHear 14 = .ok (.iconst 0, 1) := by decide +kernel
theorem dX12_canHear_15 : decode cX12_canHear 15 = .ok (.invokevirtual 331, 3) := by decide +kernel
theorem dX12_canHear_18 : decode cX12_canHear 18 = .ok (.aload_n 0, 1) := by decide +kernel
theorem dX12_canHear_19 : decode cX12_canHear 19 = .ok (.iload_n 1, 1) := by decide +kernel
theorem dX12_canHear_20 : decode cX12_canHear 20 = .ok (.iconst 2, 1) := by decide +kernel
theorem dX12_canHear_21 : decode cX12_canHear 21 = .ok (.invokevirtual 331, 3) := by decide +kernel
theorem dX12_canHear_24 : decode cX12_canHear 24 = .ok (.iload_n 3, 1) := by decide +kernel
theorem dX12_canHear_25 : decode cX12_canHear 25 = .ok (.invokevirtual 334, 3) := by decide +kernel
theorem dX12_canHear_28 : decode cX12_canHear 28 = .ok (.ifCond .eq 7, 3) := by decide +kernel
theorem dX12_canHear_31 : decode cX12_canHear 31 = .ok (.iconst 1, 1) := by decide +kernel
theorem dX12_canHear_32 : decode cX12_canHear 32 = .ok (.goto 4, 3) := by decide +kernel
theorem dX12_canHear_35 : decode cX12_canHear 35 = .ok (.iconst 0, 1) := by decide +kernel
theorem dX12_canHear_36 : decode cX12_canHear 36 = .ok (.ireturn, 1) := by decide +kernel
theorem dX12_hearsNow_0 : decode cX12_hearsNow 0 = .ok (.iconst 0, 1) := by decide +kernel
theorem dX12_hearsNow_1 : decode cX12_hearsNow 1 = .ok (.istore_n 2, 1) := by decide +kernel
theorem dX12_hearsNow_2 : decode cX12_hearsNow 2 = .ok (.iload_n 2, 1) := by decide +kernel
theorem dX12_hearsNow_3 : decode cX12_hearsNow 3 = .ok (.aload_n 0, 1) := by decide +kernel
theorem dX12_hearsNow_4 : decode cX12_hearsNow 4 = .ok (.getfield 39, 3) := by decide +kernel
theorem dX12_hearsNow_7 : decode cX12_hearsNow 7 = .ok (.iconst 3, 1) := by decide +kernel
theorem dX12_hearsNow_8 : decode cX12_hearsNow 8 = .ok (.iaload, 1) := by decide +kernel
theorem dX12_hearsNow_9 : decode cX12_hearsNow 9 = .ok (.if_icmp .ge 21, 3) := by decide +kernel
theorem dX12_hearsNow_12 : decode cX12_hearsNow 12 = .ok (.aload_n 0, 1) := by decide +kernel
theorem dX12_hearsNow_13 : decode cX12_hearsNow 13 = .ok (.iload_n 2, 1) := by decide +kernel
theorem dX12_hearsNow_14 : decode cX12_hearsNow 14 = .ok (.iconst 4, 1) := by decide +kernel
theorem dX12_hearsNow_15 : decode cX12_hearsNow 15 = .ok (.invokevirtual 331, 3) := by decide +kernel
theorem dX12_hearsNow_18 : decode cX12_hearsNow 18 = .ok (.iload_n 1, 1) := by decide +kernel
theorem dX12_hearsNow_19 : decode cX12_hearsNow 19 = .ok (.if_icmp .ne 5, 3) := by decide +kernel
theorem dX12_hearsNow_22 : decode cX12_hearsNow 22 = .ok (.iload_n 2, 1) := by decide +kernel
theorem dX12_hearsNow_23 : decode cX12_hearsNow 23 = .ok (.ireturn, 1) := by decide +kernel
theorem dX12_hearsNow_24 : decode cX12_hearsNow 24 = .ok (.iinc 2 1, 3) := by decide +kernel
theorem dX12_hearsNow_27 : decode cX12_hearsNow 27 = .ok (.goto (-25), 3) := by decide +kernel
theorem dX12_hearsNow_30 : decode cX12_hearsNow 30 = .ok (.iconst (-1), 1) := by decide +kernel
theorem dX12_hearsNow_31 : decode cX12_hearsNow 31 = .ok (.ireturn, 1) := by decide +kernel
theorem dX12_force_0 : decode cX12_force 0 = .ok (.iload_n 1, 1) := by decide +kernel
theorem dX12_force_1 : decode cX12_force 1 = .ok (.iconst (-1), 1) := by decide +kernel
theorem dX12_force_2 : decode cX12_force 2 = .ok (.if_icmp .eq 14, 3) := by decide +kernel
theorem dX12_force_5 : decode cX12_force 5 = .ok (.aload_n 0, 1) := by decide +kernel
theorem dX12_force_6 : decode cX12_force 6 = .ok (.iload_n 1, 1) := by decide +kernel
theorem dX12_force_7 : decode cX12_force 7 = .ok (.invokevirtual 338, 3) := by decide +kernel
theorem dX12_force_10 : decode cX12_force 10 = .ok (.ifCond .ne 6, 3) := by decide +kernel
theorem dX12_force_13 : decode cX12_force 13 = .ok (.bipush (-2), 2) := by decide +kernel
theorem dX12_force_15 : decode cX12_force 15 = .ok (.ireturn, 1) := by decide +kernel
theorem dX12_force_16 : decode cX12_force 16 = .ok (.aload_n 0, 1) := by decide +kernel
theorem dX12_force_17 : decode cX12_force 17 = .ok (.getfield 42, 3) := by decide +kernel
theorem dX12_force_20 : decode cX12_force 20 = .ok (.istore_n 2, 1) := by decide +kernel
theorem dX12_force_21 : decode cX12_force 21 = .ok (.aload_n 0, 1) := by decide +kernel
theorem dX12_force_22 : decode cX12_force 22 = .ok (.iload_n 1, 1) := by decide +kernel
theorem dX12_force_23 : decode cX12_force 23 = .ok (.putfield 42, 3) := by decide +kernel
theorem dX12_force_26 : decode cX12_force 26 = .ok (.iload_n 2, 1) := by decide +kernel
theorem dX12_force_27 : decode cX12_force 27 = .ok (.ireturn, 1) := by decide +kernel
theorem dX12_person_0 : decode cX12_person 0 = .ok (.aload_n 0, 1) := by decide +kernel
theorem dX12_person_1 : decode cX12_person 1 = .ok (.iload_n 1, 1) := by decide +kernel
theorem dX12_person_2 : decode cX12_person 2 = .ok (.invokevirtual 341, 3) := by decide +kernel
theorem dX12_person_5 : decode cX12_person 5 = .ok (.ifCond .ne 5, 3) := by decide +kernel
theorem dX12_person_8 : decode cX12_person 8 = .ok (.iconst (-1), 1) := by decide +kernel
theorem dX12_person_9 : decode cX12_person 9 = .ok (.ireturn, 1) := by decide +kernel
theorem dX12_person_10 : decode cX12_person 10 = .ok (.aload_n 0, 1) := by decide +kernel
theorem dX12_person_11 : decode cX12_person 11 = .ok (.getfield 39, 3) := by decide +kernel
theorem dX12_person_14 : decode cX12_person 14 = .ok (.iconst 4, 1) := by decide +kernel
theorem dX12_person_15 : decode cX12_person 15 = .ok (.iaload, 1) := by decide +kernel
theorem dX12_person_16 : decode cX12_person 16 = .ok (.istore_n 3, 1) := by decide +kernel
theorem dX12_person_17 : decode cX12_person 17 = .ok (.iload_n 2, 1) := by decide +kernel
theorem dX12_person_18 : decode cX12_person 18 = .ok (.tableswitch 95 0 7 #[46, 53, 53, 53, 60, 67, 73, 80], 46) := by decide +kernel
theorem dX12_person_64 : decode cX12_person 64 = .ok (.aload_n 0, 1) := by decide +kernel
theorem dX12_person_65 : decode cX12_person 65 = .ok (.iload_n 1, 1) := by decide +kernel
theorem dX12_person_66 : decode cX12_person 66 = .ok (.iload_n 3, 1) := by decide +kernel
theorem dX12_person_67 : decode cX12_person 67 = .ok (.invokevirtual 316, 3) := by decide +kernel
theorem dX12_person_70 : decode cX12_person 70 = .ok (.ireturn, 1) := by decide +kernel
theorem dX12_person_71 : decode cX12_person 71 = .ok (.aload_n 0, 1) := by decide +kernel
theorem dX12_person_72 : decode cX12_person 72 = .ok (.iload_n 1, 1) := by decide +kernel
theorem dX12_person_73 : decode cX12_person 73 = .ok (.iload_n 2, 1) := by decide +kernel
theorem dX12_person_74 : decode cX12_person 74 = .ok (.invokevirtual 312, 3) := by decide +kernel
theorem dX12_person_77 : decode cX12_person 77 = .ok (.ireturn, 1) := by decide +kernel
theorem dX12_person_78 : decode cX12_person 78 = .ok (.aload_n 0, 1) := by decide +kernel
theorem dX12_person_79 : decode cX12_person 79 = .ok (.iload_n 1, 1) := by decide +kernel
theorem dX12_person_80 : decode cX12_person 80 = .ok (.iload_n 3, 1) := by decide +kernel
theorem dX12_person_81 : decode cX12_person 81 = .ok (.invokevirtual 328, 3) := by decide +kernel
theorem dX12_person_84 : decode cX12_person 84 = .ok (.ireturn, 1) := by decide +kernel
theorem dX12_person_85 : decode cX12_person 85 = .ok (.aload_n 0, 1) := by decide +kernel
theorem dX12_person_86 : decode cX12_person 86 = .ok (.iload_n 1, 1) := by decide +kernel
theorem dX12_person_87 : decode cX12_person 87 = .ok (.invokevirtual 344, 3) := by decide +kernel
theorem dX12_person_90 : decode cX12_person 90 = .ok (.ireturn, 1) := by decide +kernel
theorem dX12_person_91 : decode cX12_person 91 = .ok (.aload_n 0, 1) := by decide +kernel
theorem dX12_person_92 : decode cX12_person 92 = .ok (.iload_n 1, 1) := by decide +kernel
theorem dX12_person_93 : decode cX12_person 93 = .ok (.iconst 4, 1) := by decide +kernel
theorem dX12_person_94 : decode cX12_person 94 = .ok (.invokevirtual 312, 3) := by decide +kernel
theorem dX12_person_97 : decode cX12_person 97 = .ok (.ireturn, 1) := by decide +kernel
theorem dX12_person_98 : decode cX12_person 98 = .ok (.aload_n 0, 1) := by decide +kernel
theorem dX12_person_99 : decode cX12_person 99 = .ok (.iload_n 1, 1) := by decide +kernel
theorem dX12_person_100 : decode cX12_person 100 = .ok (.iload_n 3, 1) := by decide +kernel
theorem dX12_person_101 : decode cX12_person 101 = .ok (.invokevirtual 325, 3) := by decide +kernel
theorem dX12_person_104 : decode cX12_person 104 = .ok (.ifCond .eq 7, 3) := by decide +kernel
theorem dX12_person_107 : decode cX12_person 107 = .ok (.iconst 1, 1) := by decide +kernel
theorem dX12_person_108 : decode cX12_person 108 = .ok (.goto 4, 3) := by decide +kernel
theorem dX12_person_111 : decode cX12_person 111 = .ok (.iconst 0, 1) := by decide +kernel
theorem dX12_person_112 : decode cX12_person 112 = .ok (.ireturn, 1) := by decide +kernel
theorem dX12_person_113 : decode cX12_person 113 = .ok (.iconst (-1), 1) := by decide +kernel
theorem dX12_person_114 : decode cX12_person 114 = .ok (.ireturn, 1) := by decide +kernel
theorem dX12_trial_0 : decode cX12_trial 0 = .ok (.aload_n 0, 1) := by decide +kernel
theorem dX12_trial_1 : decode cX12_trial 1 = .ok (.iload_n 1, 1) := by decide +kernel
theorem dX12_trial_2 : decode cX12_trial 2 = .ok (.invokevirtual 347, 3) := by decide +kernel
theorem dX12_trial_5 : decode cX12_trial 5 = .ok (.ifCond .eq 24, 3) := by decide +kernel
theorem dX12_trial_8 : decode cX12_trial 8 = .ok (.iload_n 2, 1) := by decide +kernel
theorem dX12_trial_9 : decode cX12_trial 9 = .ok (.i2l, 1) := by decide +kernel
theorem dX12_trial_10 : decode cX12_trial 10 = .ok (.lconst 0, 1) := by decide +kernel
theorem dX12_trial_11 : decode cX12_trial 11 = .ok (.ldc2_w 350, 3) := by decide +kernel
theorem dX12_trial_14 : decode cX12_trial 14 = .ok (.invokestatic 142, 3) := by decide +kernel
theorem dX12_trial_17 : decode cX12_trial 17 = .ok (.ifCond .eq 12, 3) := by decide +kernel
theorem dX12_trial_20 : decode cX12_trial 20 = .ok (.aload_n 0, 1) := by decide +kernel
theorem dX12_trial_21 : decode cX12_trial 21 = .ok (.iload_n 1, 1) := by decide +kernel
theorem dX12_trial_22 : decode cX12_trial 22 = .ok (.iload_n 2, 1) := by decide +kernel
theorem dX12_trial_23 : decode cX12_trial 23 = .ok (.invokevirtual 331, 3) := by decide +kernel
theorem dX12_trial_26 : decode cX12_trial 26 = .ok (.goto 5, 3) := by decide +kernel
theorem dX12_trial_29 : decode cX12_trial 29 = .ok (.bipush (-2), 2) := by decide +kernel
theorem dX12_trial_31 : decode cX12_trial 31 = .ok (.ireturn, 1) := by decide +kernel
theorem dX12_can_0 : decode cX12_can 0 = .ok (.aload_n 0, 1) := by decide +kernel
theorem dX12_can_1 : decode cX12_can 1 = .ok (.iload_n 1, 1) := by decide +kernel
theorem dX12_can_2 : decode cX12_can 2 = .ok (.invokevirtual 347, 3) := by decide +kernel
theorem dX12_can_5 : decode cX12_can 5 = .ok (.ifCond .eq 23, 3) := by decide +kernel
theorem dX12_can_8 : decode cX12_can 8 = .ok (.aload_n 0, 1) := by decide +kernel
theorem dX12_can_9 : decode cX12_can 9 = .ok (.iload_n 2, 1) := by decide +kernel
theorem dX12_can_10 : decode cX12_can 10 = .ok (.invokevirtual 341, 3) := by decide +kernel
theorem dX12_can_13 : decode cX12_can 13 = .ok (.ifCond .eq 15, 3) := by decide +kernel
theorem dX12_can_16 : decode cX12_can 16 = .ok (.iload_n 3, 1) := by decide +kernel
theorem dX12_can_17 : decode cX12_can 17 = .ok (.i2l, 1) := by decide +kernel
theorem dX12_can_18 : decode cX12_can 18 = .ok (.lconst 0, 1) := by decide +kernel
theorem dX12_can_19 : decode cX12_can 19 = .ok (.ldc2_w 352, 3) := by decide +kernel
theorem dX12_can_22 : decode cX12_can 22 = .ok (.invokestatic 142, 3) := by decide +kernel
theorem dX12_can_25 : decode cX12_can 25 = .ok (.ifCond .ne 5, 3) := by decide +kernel
theorem dX12_can_28 : decode cX12_can 28 = .ok (.iconst (-1), 1) := by decide +kernel
theorem dX12_can_29 : decode cX12_can 29 = .ok (.ireturn, 1) := by decide +kernel
theorem dX12_can_30 : decode cX12_can 30 = .ok (.aload_n 0, 1) := by decide +kernel
theorem dX12_can_31 : decode cX12_can 31 = .ok (.iload_n 1, 1) := by decide +kernel
theorem dX12_can_32 : decode cX12_can 32 = .ok (.iload_n 2, 1) := by decide +kernel
theorem dX12_can_33 : decode cX12_can 33 = .ok (.iload_n 3, 1) := by decide +kernel
theorem dX12_can_34 : decode cX12_can 34 = .ok (.invokevirtual 354, 3) := by decide +kernel
theorem dX12_can_37 : decode cX12_can 37 = .ok (.ifCond .eq 7, 3) := by decide +kernel
theorem dX12_can_40 : decode cX12_can 40 = .ok (.iconst 1, 1) := by decide +kernel
theorem dX12_can_41 : decode cX12_can 41 = .ok (.goto 4, 3) := by decide +kernel
theorem dX12_can_44 : decode cX12_can 44 = .ok (.iconst 0, 1) := by decide +kernel
theorem dX12_can_45 : decode cX12_can 45 = .ok (.ireturn, 1) := by decide +kernel
theorem dX12_summedBy_0 : decode cX12_summedBy 0 = .ok (.iconst 0, 1) := by decide +kernel
theorem dX12_summedBy_1 : decode cX12_summedBy 1 = .ok (.istore_n 2, 1) := by decide +kernel
theorem dX12_summedBy_2 : decode cX12_summedBy 2 = .ok (.iload_n 2, 1) := by decide +kernel
theorem dX12_summedBy_3 : decode cX12_summedBy 3 = .ok (.aload_n 0, 1) := by decide +kernel
theorem dX12_summedBy_4 : decode cX12_summedBy 4 = .ok (.getfield 23, 3) := by decide +kernel
theorem dX12_summedBy_7 : decode cX12_summedBy 7 = .ok (.iload_n 1, 1) := by decide +kernel
theorem dX12_summedBy_8 : decode cX12_summedBy 8 = .ok (.iaload, 1) := by decide +kernel
theorem dX12_summedBy_9 : decode cX12_summedBy 9 = .ok (.if_icmp .ge 75, 3) := by decide +kernel
theorem dX12_summedBy_12 : decode cX12_summedBy 12 = .ok (.bipush 48, 2) := by decide +kernel
theorem dX12_summedBy_14 : decode cX12_summedBy 14 = .ok (.iload_n 1, 1) := by decide +kernel
theorem dX12_summedBy_15 : decode cX12_summedBy 15 = .ok (.imul, 1) := by decide +kernel
theorem dX12_summedBy_16 : decode cX12_summedBy 16 = .ok (.iconst 4, 1) := by decide +kernel
theorem dX12_summedBy_17 : decode cX12_summedBy 17 = .ok (.iload_n 2, 1) := by decide +kernel
theorem dX12_summedBy_18 : decode cX12_summedBy 18 = .ok (.imul, 1) := by decide +kernel
theorem dX12_summedBy_19 : decode cX12_summedBy 19 = .ok (.iadd, 1) := by decide +kernel
theorem dX12_summedBy_20 : decode cX12_summedBy 20 = .ok (.istore_n 3, 1) := by decide +kernel
theorem dX12_summedBy_21 : decode cX12_summedBy 21 = .ok (.aload_n 0, 1) := by decide +kernel
theorem dX12_summedBy_22 : decode cX12_summedBy 22 = .ok (.getfield 20, 3) := by decide +kernel
theorem dX12_summedBy_25 : decode cX12_summedBy 25 = .ok (.iload_n 3, 1) := by decide +kernel
theorem dX12_summedBy_26 : decode cX12_summedBy 26 = .ok (.iconst 2, 1) := by decide +kernel
theorem dX12_summedBy_27 : decode cX12_summedBy 27 = .ok (.iadd, 1) := by decide +kernel
theorem dX12_summedBy_28 : decode cX12_summedBy 28 = .ok (.iaload, 1) := by decide +kernel
theorem dX12_summedBy_29 : decode cX12_summedBy 29 = .ok (.ifCond .lt 29, 3) := by decide +kernel
theorem dX12_summedBy_32 : decode cX12_summedBy 32 = .ok (.aload_n 0, 1) := by decide +kernel
theorem dX12_summedBy_33 : decode cX12_summedBy 33 = .ok (.iload_n 1, 1) := by decide +kernel
theorem dX12_summedBy_34 : decode cX12_summedBy 34 = .ok (.aload_n 0, 1) := by decide +kernel
theorem dX12_summedBy_35 : decode cX12_summedBy 35 = .ok (.getfield 20, 3) := by decide +kernel
theorem dX12_summedBy_38 : decode cX12_summedBy 38 = .ok (.iload_n 3, 1) := by decide +kernel
theorem dX12_summedBy_39 : decode cX12_summedBy 39 = .ok (.iconst 2, 1) := by decide +kernel
theorem dX12_summedBy_40 : decode cX12_summedBy 40 = .ok (.iadd, 1) := by decide +kernel
theorem dX12_summedBy_41 : decode cX12_summedBy 41 = .ok (.iaload, 1) := by decide +kernel
theorem dX12_summedBy_42 : decode cX12_summedBy 42 = .ok (.aload_n 0, 1) := by decide +kernel
theorem dX12_summedBy_43 : decode cX12_summedBy 43 = .ok (.getfield 20, 3) := by decide +kernel
theorem dX12_summedBy_46 : decode cX12_summedBy 46 = .ok (.iload_n 3, 1) := by decide +kernel
theorem dX12_summedBy_47 : decode cX12_summedBy 47 = .ok (.iconst 3, 1) := by decide +kernel
theorem dX12_summedBy_48 : decode cX12_summedBy 48 = .ok (.iadd, 1) := by decide +kernel
theorem dX12_summedBy_49 : decode cX12_summedBy 49 = .ok (.iaload, 1) := by decide +kernel
theorem dX12_summedBy_50 : decode cX12_summedBy 50 = .ok (.invokevirtual 357, 3) := by decide +kernel
theorem dX12_summedBy_53 : decode cX12_summedBy 53 = .ok (.lconst 1, 1) := by decide +kernel
theorem dX12_summedBy_54 : decode cX12_summedBy 54 = .ok (.lcmp, 1) := by decide +kernel
theorem dX12_summedBy_55 : decode cX12_summedBy 55 = .ok (.ifCond .ne 23, 3) := by decide +kernel
theorem dX12_summedBy_58 : decode cX12_summedBy 58 = .ok (.aload_n 0, 1) := by decide +kernel
theorem dX12_summedBy_59 : decode cX12_summedBy 59 = .ok (.iload_n 1, 1) := by decide +kernel
theorem dX12_summedBy_60 : decode cX12_summedBy 60 = .ok (.aload_n 0, 1) := by decide +kernel
theorem dX12_summedBy_61 : decode cX12_summedBy 61 = .ok (.getfield 20, 3) := by decide +kernel
theorem dX12_summedBy_64 : decode cX12_summedBy 64 = .ok (.iload_n 3, 1) := by decide +kernel
theorem dX12_summedBy_65 : decode cX12_summedBy 65 = .ok (.iaload, 1) := by decide +kernel
theorem dX12_summedBy_66 : decode cX12_summedBy 66 = .ok (.aload_n 0, 1) := by decide +kernel
theorem dX12_summedBy_67 : decode cX12_summedBy 67 = .ok (.getfield 20, 3) := by decide +kernel
theorem dX12_summedBy_70 : decode cX12_summedBy 70 = .ok (.iload_n 3, 1) := by decide +kernel
theorem dX12_summedBy_71 : decode cX12_summedBy 71 = .ok (.iconst 1, 1) := by decide +kernel
theorem dX12_summedBy_72 : decode cX12_summedBy 72 = .ok (.iadd, 1) := by decide +kernel
theorem dX12_summedBy_73 : decode cX12_summedBy 73 = .ok (.iaload, 1) := by decide +kernel
theorem dX12_summedBy_74 : decode cX12_summedBy 74 = .ok (.invokevirtual 357, 3) := by decide +kernel
theorem dX12_summedBy_77 : decode cX12_summedBy 77 = .ok (.lreturn, 1) := by decide +kernel
theorem dX12_summedBy_78 : decode cX12_summedBy 78 = .ok (.iinc 2 1, 3) := by decide +kernel
theorem dX12_summedBy_81 : decode cX12_summedBy 81 = .ok (.goto (-79), 3) := by decide +kernel
theorem dX12_summedBy_84 : decode cX12_summedBy 84 = .ok (.lconst 0, 1) := by decide +kernel
theorem dX12_summedBy_85 : decode cX12_summedBy 85 = .ok (.lreturn, 1) := by decide +kernel
theorem dX12_rightIn_0 : decode cX12_rightIn 0 = .ok (.ldc2_w 361, 3) := by decide +kernel
theorem dX12_rightIn_3 : decode cX12_rightIn 3 = .ok (.iconst 5, 1) := by decide +kernel
theorem dX12_rightIn_4 : decode cX12_rightIn 4 = .ok (.aload_n 0, 1) := by decide +kernel
theorem dX12_rightIn_5 : decode cX12_rightIn 5 = .ok (.iload_n 1, 1) := by decide +kernel
theorem dX12_rightIn_6 : decode cX12_rightIn 6 = .ok (.iconst 1, 1) := by decide +kernel
theorem dX12_rightIn_7 : decode cX12_rightIn 7 = .ok (.invokevirtual 312, 3) := by decide +kernel
theorem dX12_rightIn_10 : decode cX12_rightIn 10 = .ok (.imul, 1) := by decide +kernel
theorem dX12_rightIn_11 : decode cX12_rightIn 11 = .ok (.i2l, 1) := by decide +kernel
theorem dX12_rightIn_12 : decode cX12_rightIn 12 = .ok (.ladd, 1) := by decide +kernel
theorem dX12_rightIn_13 : decode cX12_rightIn 13 = .ok (.iconst 4, 1) := by decide +kernel
theorem dX12_rightIn_14 : decode cX12_rightIn 14 = .ok (.iload_n 3, 1) := by decide +kernel
theorem dX12_rightIn_15 : decode cX12_rightIn 15 = .ok (.imul, 1) := by decide +kernel
theorem dX12_rightIn_16 : decode cX12_rightIn 16 = .ok (.i2l, 1) := by decide +kernel
theorem dX12_rightIn_17 : decode cX12_rightIn 17 = .ok (.lsub, 1) := by decide +kernel
theorem dX12_rightIn_18 : decode cX12_rightIn 18 = .ok (.iconst 3, 1) := by decide +kernel
theorem dX12_rightIn_19 : decode cX12_rightIn 19 = .ok (.aload_n 0, 1) := by decide +kernel
theorem dX12_rightIn_20 : decode cX12_rightIn 20 = .ok (.iload_n 1, 1) := by decide +kernel
theorem dX12_rightIn_21 : decode cX12_rightIn 21 = .ok (.iconst 2, 1) := by decide +kernel
theorem dX12_rightIn_22 : decode cX12_rightIn 22 = .ok (.invokevirtual 312, 3) := by decide +kernel
theorem dX12_rightIn_25 : decode cX12_rightIn 25 = .ok (.imul, 1) := by decide +kernel
theorem dX12_rightIn_26 : decode cX12_rightIn 26 = .ok (.i2l, 1) := by decide +kernel
theorem dX12_rightIn_27 : decode cX12_rightIn 27 = .ok (.lsub, 1) := by decide +kernel
theorem dX12_rightIn_28 : decode cX12_rightIn 28 = .ok (.lstore 8, 2) := by decide +kernel
theorem dX12_rightIn_30 : decode cX12_rightIn 30 = .ok (.aload_n 0, 1) := by decide +kernel
theorem dX12_rightIn_31 : decode cX12_rightIn 31 = .ok (.getfield 42, 3) := by decide +kernel
theorem dX12_rightIn_34 : decode cX12_rightIn 34 = .ok (.ifCond .lt 153, 3) := by decide +kernel
theorem dX12_rightIn_37 : decode cX12_rightIn 37 = .ok (.aload_n 0, 1) := by decide +kernel
theorem dX12_rightIn_38 : decode cX12_rightIn 38 = .ok (.getfield 36, 3) := by decide +kernel
theorem dX12_rightIn_41 : decode cX12_rightIn 41 = .ok (.iconst 0, 1) := by decide +kernel
theorem dX12_rightIn_42 : decode cX12_rightIn 42 = .ok (.iload_n 1, 1) := by decide +kernel
theorem dX12_rightIn_43 : decode cX12_rightIn 43 = .ok (.i2l, 1) := by decide +kernel
theorem dX12_rightIn_44 : decode cX12_rightIn 44 = .ok (.lastore, 1) := by decide +kernel
theorem dX12_rightIn_45 : decode cX12_rightIn 45 = .ok (.aload_n 0, 1) := by decide +kernel
theorem dX12_rightIn_46 : decode cX12_rightIn 46 = .ok (.getfield 36, 3) := by decide +kernel
theorem dX12_rightIn_49 : decode cX12_rightIn 49 = .ok (.iconst 1, 1) := by decide +kernel
theorem dX12_rightIn_50 : decode cX12_rightIn 50 = .ok (.aload_n 0, 1) := by decide +kernel
theorem dX12_rightIn_51 : decode cX12_rightIn 51 = .ok (.iload_n 1, 1) := by decide +kernel
theorem dX12_rightIn_52 : decode cX12_rightIn 52 = .ok (.iconst 1, 1) := by decide +kernel
theorem dX12_rightIn_53 : decode cX12_rightIn 53 = .ok (.invokevirtual 312, 3) := by decide +kernel
theorem dX12_rightIn_56 : decode cX12_rightIn 56 = .ok (.i2l, 1) := by decide +kernel
theorem dX12_rightIn_57 : decode cX12_rightIn 57 = .ok (.lastore, 1) := by decide +kernel
theorem dX12_rightIn_58 : decode cX12_rightIn 58 = .ok (.aload_n 0, 1) := by decide +kernel
theorem dX12_rightIn_59 : decode cX12_rightIn 59 = .ok (.getfield 36, 3) := by decide +kernel
theorem dX12_rightIn_62 : decode cX12_rightIn 62 = .ok (.iconst 2, 1) := by decide +kernel
theorem dX12_rightIn_63 : decode cX12_rightIn 63 = .ok (.aload_n 0, 1) := by decide +kernel
theorem dX12_rightIn_64 : decode cX12_rightIn 64 = .ok (.iload_n 1, 1) := by decide +kernel
theorem dX12_rightIn_65 : decode cX12_rightIn 65 = .ok (.iload 5, 2) := by decide +kernel
theorem dX12_rightIn_67 : decode cX12_rightIn 67 = .ok (.invokevirtual 316, 3) := by decide +kernel
theorem dX12_rightIn_70 : decode cX12_rightIn 70 = .ok (.i2l, 1) := by decide +kernel
theorem dX12_rightIn_71 : decode cX12_rightIn 71 = .ok (.lastore, 1) := by decide +kernel
theorem dX12_rightIn_72 : decode cX12_rightIn 72 = .ok (.aload_n 0, 1) := by decide +kernel
theorem dX12_rightIn_73 : decode cX12_rightIn 73 = .ok (.getfield 36, 3) := by decide +kernel
theorem dX12_rightIn_76 : decode cX12_rightIn 76 = .ok (.iconst 3, 1) := by decide +kernel
theorem dX12_rightIn_77 : decode cX12_rightIn 77 = .ok (.aload_n 0, 1) := by decide +kernel
theorem dX12_rightIn_78 : decode cX12_rightIn 78 = .ok (.iload_n 1, 1) := by decide +kernel
theorem dX12_rightIn_79 : decode cX12_rightIn 79 = .ok (.iconst 2, 1) := by decide +kernel
theorem dX12_rightIn_80 : decode cX12_rightIn 80 = .ok (.invokevirtual 312, 3) := by decide +kernel
theorem dX12_rightIn_83 : decode cX12_rightIn 83 = .ok (.i2l, 1) := by decide +kernel
theorem dX12_rightIn_84 : decode cX12_rightIn 84 = .ok (.lastore, 1) := by decide +kernel
theorem dX12_rightIn_85 : decode cX12_rightIn 85 = .ok (.aload_n 0, 1) := by decide +kernel
theorem dX12_rightIn_86 : decode cX12_rightIn 86 = .ok (.getfield 36, 3) := by decide +kernel
theorem dX12_rightIn_89 : decode cX12_rightIn 89 = .ok (.iconst 4, 1) := by decide +kernel
theorem dX12_rightIn_90 : decode cX12_rightIn 90 = .ok (.iload_n 2, 1) := by decide +kernel
theorem dX12_rightIn_91 : decode cX12_rightIn 91 = .ok (.i2l, 1) := by decide +kernel
theorem dX12_rightIn_92 : decode cX12_rightIn 92 = .ok (.lastore, 1) := by decide +kernel
theorem dX12_rightIn_93 : decode cX12_rightIn 93 = .ok (.aload_n 0, 1) := by decide +kernel
theorem dX12_rightIn_94 : decode cX12_rightIn 94 = .ok (.getfield 36, 3) := by decide +kernel
theorem dX12_rightIn_97 : decode cX12_rightIn 97 = .ok (.iconst 5, 1) := by decide +kernel
theorem dX12_rightIn_98 : decode cX12_rightIn 98 = .ok (.iload_n 3, 1) := by decide +kernel
theorem dX12_rightIn_99 : decode cX12_rightIn 99 = .ok (.i2l, 1) := by decide +kernel
theorem dX12_rightIn_100 : decode cX12_rightIn 100 = .ok (.lastore, 1) := by decide +kernel
theorem dX12_rightIn_101 : decode cX12_rightIn 101 = .ok (.aload_n 0, 1) := by decide +kernel
theorem dX12_rightIn_102 : decode cX12_rightIn 102 = .ok (.getfield 36, 3) := by decide +kernel
theorem dX12_rightIn_105 : decode cX12_rightIn 105 = .ok (.bipush 6, 2) := by decide +kernel
theorem dX12_rightIn_107 : decode cX12_rightIn 107 = .ok (.iload 4, 2) := by decide +kernel
theorem dX12_rightIn_109 : decode cX12_rightIn 109 = .ok (.i2l, 1) := by decide +kernel
theorem dX12_rightIn_110 : decode cX12_rightIn 110 = .ok (.lastore, 1) := by decide +kernel
theorem dX12_rightIn_111 : decode cX12_rightIn 111 = .ok (.aload_n 0, 1) := by decide +kernel
theorem dX12_rightIn_112 : decode cX12_rightIn 112 = .ok (.getfield 36, 3) := by decide +kernel
theorem dX12_rightIn_115 : decode cX12_rightIn 115 = .ok (.bipush 7, 2) := by decide +kernel
theorem dX12_rightIn_117 : decode cX12_rightIn 117 = .ok (.aload_n 0, 1) := by decide +kernel
theorem dX12_rightIn_118 : decode cX12_rightIn 118 = .ok (.iload_n 2, 1) := by decide +kernel
theorem dX12_rightIn_119 : decode cX12_rightIn 119 = .ok (.iconst 0, 1) := by decide +kernel
theorem dX12_rightIn_120 : decode cX12_rightIn 120 = .ok (.invokevirtual 312, 3) := by decide +kernel
theorem dX12_rightIn_123 : decode cX12_rightIn 123 = .ok (.aload_n 0, 1) := by decide +kernel
theorem dX12_rightIn_124 : decode cX12_rightIn 124 = .ok (.iload_n 1, 1) := by decide +kernel
theorem dX12_rightIn_125 : decode cX12_rightIn 125 = .ok (.iconst 0, 1) := by decide +kernel
theorem dX12_rightIn_126 : decode cX12_rightIn 126 = .ok (.invokevirtual 312, 3) := by decide +kernel
theorem dX12_rightIn_129 : decode cX12_rightIn 129 = .ok (.isub, 1) := by decide +kernel
theorem dX12_rightIn_130 : decode cX12_rightIn 130 = .ok (.i2l, 1) := by decide +kernel
theorem dX12_rightIn_131 : decode cX12_rightIn 131 = .ok (.lastore, 1) := by decide +kernel
theorem dX12_rightIn_132 : decode cX12_rightIn 132 = .ok (.aload_n 0, 1) := by decide +kernel
theorem dX12_rightIn_133 : decode cX12_rightIn 133 = .ok (.getfield 36, 3) := by decide +kernel
theorem dX12_rightIn_136 : decode cX12_rightIn 136 = .ok (.bipush 8, 2) := by decide +kernel
theorem dX12_rightIn_138 : decode cX12_rightIn 138 = .ok (.iload 5, 2) := by decide +kernel
theorem dX12_rightIn_140 : decode cX12_rightIn 140 = .ok (.i2l, 1) := by decide +kernel
theorem dX12_rightIn_141 : decode cX12_rightIn 141 = .ok (.lastore, 1) := by decide +kernel
theorem dX12_rightIn_142 : decode cX12_rightIn 142 = .ok (.aload_n 0, 1) := by decide +kernel
theorem dX12_rightIn_143 : decode cX12_rightIn 143 = .ok (.getfield 36, 3) := by decide +kernel
theorem dX12_rightIn_146 : decode cX12_rightIn 146 = .ok (.bipush 9, 2) := by decide +kernel
theorem dX12_rightIn_148 : decode cX12_rightIn 148 = .ok (.iload 6, 2) := by decide +kernel
theorem dX12_rightIn_150 : decode cX12_rightIn 150 = .ok (.i2l, 1) := by decide +kernel
theorem dX12_rightIn_151 : decode cX12_rightIn 151 = .ok (.lastore, 1) := by decide +kernel
theorem dX12_rightIn_152 : decode cX12_rightIn 152 = .ok (.aload_n 0, 1) := by decide +kernel
theorem dX12_rightIn_153 : decode cX12_rightIn 153 = .ok (.getfield 36, 3) := by decide +kernel
theorem dX12_rightIn_156 : decode cX12_rightIn 156 = .ok (.bipush 10, 2) := by decide +kernel
theorem dX12_rightIn_158 : decode cX12_rightIn 158 = .ok (.iload 7, 2) := by decide +kernel
theorem dX12_rightIn_160 : decode cX12_rightIn 160 = .ok (.i2l, 1) := by decide +kernel
theorem dX12_rightIn_161 : decode cX12_rightIn 161 = .ok (.lastore, 1) := by decide +kernel
theorem dX12_rightIn_162 : decode cX12_rightIn 162 = .ok (.aload_n 0, 1) := by decide +kernel
theorem dX12_rightIn_163 : decode cX12_rightIn 163 = .ok (.getfield 36, 3) := by decide +kernel
theorem dX12_rightIn_166 : decode cX12_rightIn 166 = .ok (.bipush 11, 2) := by decide +kernel
theorem dX12_rightIn_168 : decode cX12_rightIn 168 = .ok (.aload_n 0, 1) := by decide +kernel
theorem dX12_rightIn_169 : decode cX12_rightIn 169 = .ok (.iload_n 1, 1) := by decide +kernel
theorem dX12_rightIn_170 : decode cX12_rightIn 170 = .ok (.iload 5, 2) := by decide +kernel
theorem dX12_rightIn_172 : decode cX12_rightIn 172 = .ok (.invokevirtual 328, 3) := by decide +kernel
theorem dX12_rightIn_175 : decode cX12_rightIn 175 = .ok (.i2l, 1) := by decide +kernel
theorem dX12_rightIn_176 : decode cX12_rightIn 176 = .ok (.lastore, 1) := by decide +kernel
theorem dX12_rightIn_177 : decode cX12_rightIn 177 = .ok (.aload_n 0, 1) := by decide +kernel
theorem dX12_rightIn_178 : decode cX12_rightIn 178 = .ok (.aload_n 0, 1) := by decide +kernel
theorem dX12_rightIn_179 : decode cX12_rightIn 179 = .ok (.getfield 42, 3) := by decide +kernel
theorem dX12_rightIn_182 : decode cX12_rightIn 182 = .ok (.invokevirtual 363, 3) := by decide +kernel
theorem dX12_rightIn_185 : decode cX12_rightIn 185 = .ok (.lstore 8, 2) := by decide +kernel
theorem dX12_rightIn_187 : decode cX12_rightIn 187 = .ok (.lload 8, 2) := by decide +kernel
theorem dX12_rightIn_189 : decode cX12_rightIn 189 = .ok (.lconst 0, 1) := by decide +kernel
theorem dX12_rightIn_190 : decode cX12_rightIn 190 = .ok (.lcmp, 1) := by decide +kernel
theorem dX12_rightIn_191 : decode cX12_rightIn 191 = .ok (.ifCond .ge 7, 3) := by decide +kernel
theorem dX12_rightIn_194 : decode cX12_rightIn 194 = .ok (.iconst 0, 1) := by decide +kernel
theorem dX12_rightIn_195 : decode cX12_rightIn 195 = .ok (.goto 20, 3) := by decide +kernel
theorem dX12_rightIn_198 : decode cX12_rightIn 198 = .ok (.lload 8, 2) := by decide +kernel
theorem dX12_rightIn_200 : decode cX12_rightIn 200 = .ok (.ldc2_w 367, 3) := by decide +kernel
theorem dX12_rightIn_203 : decode cX12_rightIn 203 = .ok (.lcmp, 1) := by decide +kernel
theorem dX12_rightIn_204 : decode cX12_rightIn 204 = .ok (.ifCond .le 8, 3) := by decide +kernel
theorem dX12_rightIn_207 : decode cX12_rightIn 207 = .ok (.bipush 100, 2) := by decide +kernel
theorem dX12_rightIn_209 : decode cX12_rightIn 209 = .ok (.goto 6, 3) := by decide +kernel
theorem dX12_rightIn_212 : decode cX12_rightIn 212 = .ok (.lload 8, 2) := by decide +kernel
theorem dX12_rightIn_214 : decode cX12_rightIn 214 = .ok (.l2i, 1) := by decide +kernel
theorem dX12_rightIn_215 : decode cX12_rightIn 215 = .ok (.ireturn, 1) := by decide +kernel
theorem dX12_rightOf_0 : decode cX12_rightOf 0 = .ok (.aload_n 0, 1) := by decide +kernel
theorem dX12_rightOf_1 : decode cX12_rightOf 1 = .ok (.iload_n 2, 1) := by decide +kernel
theorem dX12_rightOf_2 : decode cX12_rightOf 2 = .ok (.aload_n 0, 1) := by decide +kernel
theorem dX12_rightOf_3 : decode cX12_rightOf 3 = .ok (.iload_n 1, 1) := by decide +kernel
theorem dX12_rightOf_4 : decode cX12_rightOf 4 = .ok (.iconst 0, 1) := by decide +kernel
theorem dX12_rightOf_5 : decode cX12_rightOf 5 = .ok (.invokevirtual 331, 3) := by decide +kernel
theorem dX12_rightOf_8 : decode cX12_rightOf 8 = .ok (.aload_n 0, 1) := by decide +kernel
theorem dX12_rightOf_9 : decode cX12_rightOf 9 = .ok (.iload_n 1, 1) := by decide +kernel
theorem dX12_rightOf_10 : decode cX12_rightOf 10 = .ok (.iconst 1, 1) := by decide +kernel
theorem dX12_rightOf_11 : decode cX12_rightOf 11 = .ok (.invokevirtual 331, 3) := by decide +kernel
theorem dX12_rightOf_14 : decode cX12_rightOf 14 = .ok (.aload_n 0, 1) := by decide +kernel
theorem dX12_rightOf_15 : decode cX12_rightOf 15 = .ok (.iload_n 1, 1) := by decide +kernel
theorem dX12_rightOf_16 : decode cX12_rightOf 16 = .ok (.iconst 2, 1) := by decide +kernel
theorem dX12_rightOf_17 : decode cX12_rightOf 17 = .ok (.invokevirtual 331, 3) := by decide +kernel
theorem dX12_rightOf_20 : decode cX12_rightOf 20 = .ok (.iload_n 3, 1) := by decide +kernel
theorem dX12_rightOf_21 : decode cX12_rightOf 21 = .ok (.aload_n 0, 1) := by decide +kernel
theorem dX12_rightOf_22 : decode cX12_rightOf 22 = .ok (.iload_n 2, 1) := by decide +kernel
theorem dX12_rightOf_23 : decode cX12_rightOf 23 = .ok (.iconst 4, 1) := by decide +kernel
theorem dX12_rightOf_24 : decode cX12_rightOf 24 = .ok (.invokevirtual 312, 3) := by decide +kernel
theorem dX12_rightOf_27 : decode cX12_rightOf 27 = .ok (.aload_n 0, 1) := by decide +kernel
theorem dX12_rightOf_28 : decode cX12_rightOf 28 = .ok (.iload_n 1, 1) := by decide +kernel
theorem dX12_rightOf_29 : decode cX12_rightOf 29 = .ok (.bipush 9, 2) := by decide +kernel
theorem dX12_rightOf_31 : decode cX12_rightOf 31 = .ok (.invokevirtual 331, 3) := by decide +kernel
theorem dX12_rightOf_34 : decode cX12_rightOf 34 = .ok (.invokevirtual 369, 3) := by decide +kernel
theorem dX12_rightOf_37 : decode cX12_rightOf 37 = .ok (.ireturn, 1) := by decide +kernel
theorem dX12_right_0 : decode cX12_right 0 = .ok (.aload_n 0, 1) := by decide +kernel
theorem dX12_right_1 : decode cX12_right 1 = .ok (.iload_n 1, 1) := by decide +kernel
theorem dX12_right_2 : decode cX12_right 2 = .ok (.invokevirtual 347, 3) := by decide +kernel
theorem dX12_right_5 : decode cX12_right 5 = .ok (.ifCond .eq 26, 3) := by decide +kernel
theorem dX12_right_8 : decode cX12_right 8 = .ok (.aload_n 0, 1) := by decide +kernel
theorem dX12_right_9 : decode cX12_right 9 = .ok (.iload_n 2, 1) := by decide +kernel
theorem dX12_right_10 : decode cX12_right 10 = .ok (.invokevirtual 341, 3) := by decide +kernel
theorem dX12_right_13 : decode cX12_right 13 = .ok (.ifCond .eq 18, 3) := by decide +kernel
theorem dX12_right_16 : decode cX12_right 16 = .ok (.aload_n 0, 1) := by decide +kernel
theorem dX12_right_17 : decode cX12_right 17 = .ok (.iload_n 1, 1) := by decide +kernel
theorem dX12_right_18 : decode cX12_right 18 = .ok (.iload_n 2, 1) := by decide +kernel
theorem dX12_right_19 : decode cX12_right 19 = .ok (.aload_n 0, 1) := by decide +kernel
theorem dX12_right_20 : decode cX12_right 20 = .ok (.getfield 39, 3) := by decide +kernel
theorem dX12_right_23 : decode cX12_right 23 = .ok (.iconst 4, 1) := by decide +kernel
theorem dX12_right_24 : decode cX12_right 24 = .ok (.iaload, 1) := by decide +kernel
theorem dX12_right_25 : decode cX12_right 25 = .ok (.invokevirtual 373, 3) := by decide +kernel
theorem dX12_right_28 : decode cX12_right 28 = .ok (.goto 4, 3) := by decide +kernel
theorem dX12_right_31 : decode cX12_right 31 = .ok (.iconst (-1), 1) := by decide +kernel
theorem dX12_right_32 : decode cX12_right 32 = .ok (.ireturn, 1) := by decide +kernel
theorem dX12_keepsAct_0 : decode cX12_keepsAct 0 = .ok (.aload_n 0, 1) := by decide +kernel
theorem dX12_keepsAct_1 : decode cX12_keepsAct 1 = .ok (.getfield 294, 3) := by decide +kernel
theorem dX12_keepsAct_4 : decode cX12_keepsAct 4 = .ok (.bipush 20, 2) := by decide +kernel
theorem dX12_keepsAct_6 : decode cX12_keepsAct 6 = .ok (.if_icmp .ne 44, 3) := by decide +kernel
theorem dX12_keepsAct_9 : decode cX12_keepsAct 9 = .ok (.bipush 111, 2) := by decide +kernel
theorem dX12_keepsAct_11 : decode cX12_keepsAct 11 = .ok (.istore_n 1, 1) := by decide +kernel
theorem dX12_keepsAct_12 : decode cX12_keepsAct 12 = .ok (.iload_n 1, 1) := by decide +kernel
theorem dX12_keepsAct_13 : decode cX12_keepsAct 13 = .ok (.sipush 2220, 3) := by decide +kernel
theorem dX12_keepsAct_16 : decode cX12_keepsAct 16 = .ok (.if_icmp .ge 24, 3) := by decide +kernel
theorem dX12_keepsAct_19 : decode cX12_keepsAct 19 = .ok (.aload_n 0, 1) := by decide +kernel
theorem dX12_keepsAct_20 : decode cX12_keepsAct 20 = .ok (.getfield 46, 3) := by decide +kernel
theorem dX12_keepsAct_23 : decode cX12_keepsAct 23 = .ok (.iload_n 1, 1) := by decide +kernel
theorem dX12_keepsAct_24 : decode cX12_keepsAct 24 = .ok (.bipush 111, 2) := by decide +kernel
theorem dX12_keepsAct_26 : decode cX12_keepsAct 26 = .ok (.isub, 1) := by decide +kernel
theorem dX12_keepsAct_27 : decode cX12_keepsAct 27 = .ok (.aload_n 0, 1) := by decide +kernel
theorem dX12_keepsAct_28 : decode cX12_keepsAct 28 = .ok (.getfield 46, 3) := by decide +kernel
theorem dX12_keepsAct_31 : decode cX12_keepsAct 31 = .ok (.iload_n 1, 1) := by decide +kernel
theorem dX12_keepsAct_32 : decode cX12_keepsAct 32 = .ok (.iaload, 1) := by decide +kernel
theorem dX12_keepsAct_33 : decode cX12_keepsAct 33 = .ok (.iastore, 1) := by decide +kernel
theorem dX12_keepsAct_34 : decode cX12_keepsAct 34 = .ok (.iinc 1 1, 3) := by decide +kernel
theorem dX12_keepsAct_37 : decode cX12_keepsAct 37 = .ok (.goto (-25), 3) := by decide +kernel
theorem dX12_keepsAct_40 : decode cX12_keepsAct 40 = .ok (.aload_n 0, 1) := by decide +kernel
theorem dX12_keepsAct_41 : decode cX12_keepsAct 41 = .ok (.dup, 1) := by decide +kernel
theorem dX12_keepsAct_42 : decode cX12_keepsAct 42 = .ok (.getfield 294, 3) := by decide +kernel
theorem dX12_keepsAct_45 : decode cX12_keepsAct 45 = .ok (.iconst 1, 1) := by decide +kernel
theorem dX12_keepsAct_46 : decode cX12_keepsAct 46 = .ok (.isub, 1) := by decide +kernel
theorem dX12_keepsAct_47 : decode cX12_keepsAct 47 = .ok (.putfield 294, 3) := by decide +kernel
theorem dX12_keepsAct_50 : decode cX12_keepsAct 50 = .ok (.iconst 0, 1) := by decide +kernel
theorem dX12_keepsAct_51 : decode cX12_keepsAct 51 = .ok (.istore_n 1, 1) := by decide +kernel
theorem dX12_keepsAct_52 : decode cX12_keepsAct 52 = .ok (.iload_n 1, 1) := by decide +kernel
theorem dX12_keepsAct_53 : decode cX12_keepsAct 53 = .ok (.bipush 111, 2) := by decide +kernel
theorem dX12_keepsAct_55 : decode cX12_keepsAct 55 = .ok (.if_icmp .ge 29, 3) := by decide +kernel
theorem dX12_keepsAct_58 : decode cX12_keepsAct 58 = .ok (.aload_n 0, 1) := by decide +kernel
theorem dX12_keepsAct_59 : decode cX12_keepsAct 59 = .ok (.getfield 46, 3) := by decide +kernel
theorem dX12_keepsAct_62 : decode cX12_keepsAct 62 = .ok (.bipush 111, 2) := by decide +kernel
theorem dX12_keepsAct_64 : decode cX12_keepsAct 64 = .ok (.aload_n 0, 1) := by decide +kernel
theorem dX12_keepsAct_65 : decode cX12_keepsAct 65 = .ok (.getfield 294, 3) := by decide +kernel
theorem dX12_keepsAct_68 : decode cX12_keepsAct 68 = .ok (.imul, 1) := by decide +kernel
theorem dX12_keepsAct_69 : decode cX12_keepsAct 69 = .ok (.iload_n 1, 1) := by decide +kernel
theorem dX12_keepsAct_70 : decode cX12_keepsAct 70 = .ok (.iadd, 1) := by decide +kernel
theorem dX12_keepsAct_71 : decode cX12_keepsAct 71 = .ok (.aload_n 0, 1) := by decide +kernel
theorem dX12_keepsAct_72 : decode cX12_keepsAct 72 = .ok (.getfield 39, 3) := by decide +kernel
theorem dX12_keepsAct_75 : decode cX12_keepsAct 75 = .ok (.iload_n 1, 1) := by decide +kernel
theorem dX12_keepsAct_76 : decode cX12_keepsAct 76 = .ok (.iaload, 1) := by decide +kernel
theorem dX12_keepsAct_77 : decode cX12_keepsAct 77 = .ok (.iastore, 1) := by decide +kernel
theorem dX12_keepsAct_78 : decode cX12_keepsAct 78 = .ok (.iinc 1 1, 3) := by decide +kernel
theorem dX12_keepsAct_81 : decode cX12_keepsAct 81 = .ok (.goto (-29), 3) := by decide +kernel
theorem dX12_keepsAct_84 : decode cX12_keepsAct 84 = .ok (.aload_n 0, 1) := by decide +kernel
theorem dX12_keepsAct_85 : decode cX12_keepsAct 85 = .ok (.dup, 1) := by decide +kernel
theorem dX12_keepsAct_86 : decode cX12_keepsAct 86 = .ok (.getfield 294, 3) := by decide +kernel
theorem dX12_keepsAct_89 : decode cX12_keepsAct 89 = .ok (.iconst 1, 1) := by decide +kernel
theorem dX12_keepsAct_90 : decode cX12_keepsAct 90 = .ok (.iadd, 1) := by decide +kernel
theorem dX12_keepsAct_91 : decode cX12_keepsAct 91 = .ok (.putfield 294, 3) := by decide +kernel
theorem dX12_keepsAct_94 : decode cX12_keepsAct 94 = .ok (.return_, 1) := by decide +kernel
theorem dX12_undo_0 : decode cX12_undo 0 = .ok (.aload_n 0, 1) := by decide +kernel
theorem dX12_undo_1 : decode cX12_undo 1 = .ok (.getfield 294, 3) := by decide +kernel
theorem dX12_undo_4 : decode cX12_undo 4 = .ok (.ifCond .ne 5, 3) := by decide +kernel
theorem dX12_undo_7 : decode cX12_undo 7 = .ok (.iconst (-1), 1) := by decide +kernel
theorem dX12_undo_8 : decode cX12_undo 8 = .ok (.ireturn, 1) := by decide +kernel
theorem dX12_undo_9 : decode cX12_undo 9 = .ok (.aload_n 0, 1) := by decide +kernel
theorem dX12_undo_10 : decode cX12_undo 10 = .ok (.dup, 1) := by decide +kernel
theorem dX12_undo_11 : decode cX12_undo 11 = .ok (.getfield 294, 3) := by decide +kernel
theorem dX12_undo_14 : decode cX12_undo 14 = .ok (.iconst 1, 1) := by decide +kernel
theorem dX12_undo_15 : decode cX12_undo 15 = .ok (.isub, 1) := by decide +kernel
theorem dX12_undo_16 : decode cX12_undo 16 = .ok (.putfield 294, 3) := by decide +kernel
theorem dX12_undo_19 : decode cX12_undo 19 = .ok (.iconst 0, 1) := by decide +kernel
theorem dX12_undo_20 : decode cX12_undo 20 = .ok (.istore_n 1, 1) := by decide +kernel
theorem dX12_undo_21 : decode cX12_undo 21 = .ok (.iload_n 1, 1) := by decide +kernel
theorem dX12_undo_22 : decode cX12_undo 22 = .ok (.bipush 111, 2) := by decide +kernel
theorem dX12_undo_24 : decode cX12_undo 24 = .ok (.if_icmp .ge 29, 3) := by decide +kernel
theorem dX12_undo_27 : decode cX12_undo 27 = .ok (.aload_n 0, 1) := by decide +kernel
theorem dX12_undo_28 : decode cX12_undo 28 = .ok (.getfield 39, 3) := by decide +kernel
theorem dX12_undo_31 : decode cX12_undo 31 = .ok (.iload_n 1, 1) := by decide +kernel
theorem dX12_undo_32 : decode cX12_undo 32 = .ok (.aload_n 0, 1) := by decide +kernel
theorem dX12_undo_33 : decode cX12_undo 33 = .ok (.getfield 46, 3) := by decide +kernel
theorem dX12_undo_36 : decode cX12_undo 36 = .ok (.bipush 111, 2) := by decide +kernel
theorem dX12_undo_38 : decode cX12_undo 38 = .ok (.aload_n 0, 1) := by decide +kernel
theorem dX12_undo_39 : decode cX12_undo 39 = .ok (.getfield 294, 3) := by decide +kernel
theorem dX12_undo_42 : decode cX12_undo 42 = .ok (.imul, 1) := by decide +kernel
theorem dX12_undo_43 : decode cX12_undo 43 = .ok (.iload_n 1, 1) := by decide +kernel
theorem dX12_undo_44 : decode cX12_undo 44 = .ok (.iadd, 1) := by decide +kernel
theorem dX12_undo_45 : decode cX12_undo 45 = .ok (.iaload, 1) := by decide +kernel
theorem dX12_undo_46 : decode cX12_undo 46 = .ok (.iastore, 1) := by decide +kernel
theorem dX12_undo_47 : decode cX12_undo 47 = .ok (.iinc 1 1, 3) := by decide +kernel
theorem dX12_undo_50 : decode cX12_undo 50 = .ok (.goto (-29), 3) := by decide +kernel
theorem dX12_undo_53 : decode cX12_undo 53 = .ok (.aload_n 0, 1) := by decide +kernel
theorem dX12_undo_54 : decode cX12_undo 54 = .ok (.getfield 294, 3) := by decide +kernel
theorem dX12_undo_57 : decode cX12_undo 57 = .ok (.ireturn, 1) := by decide +kernel
theorem dX12_isRuled_0 : decode cX12_isRuled 0 = .ok (.bipush 45, 2) := by decide +kernel
theorem dX12_isRuled_2 : decode cX12_isRuled 2 = .ok (.bipush 11, 2) := by decide +kernel
theorem dX12_isRuled_4 : decode cX12_isRuled 4 = .ok (.iload_n 1, 1) := by decide +kernel
theorem dX12_isRuled_5 : decode cX12_isRuled 5 = .ok (.imul, 1) := by decide +kernel
theorem dX12_isRuled_6 : decode cX12_isRuled 6 = .ok (.iadd, 1) := by decide +kernel
theorem dX12_isRuled_7 : decode cX12_isRuled 7 = .ok (.istore_n 2, 1) := by decide +kernel
theorem dX12_isRuled_8 : decode cX12_isRuled 8 = .ok (.aload_n 0, 1) := by decide +kernel
theorem dX12_isRuled_9 : decode cX12_isRuled 9 = .ok (.getfield 39, 3) := by decide +kernel
theorem dX12_isRuled_12 : decode cX12_isRuled 12 = .ok (.iload_n 2, 1) := by decide +kernel
theorem dX12_isRuled_13 : decode cX12_isRuled 13 = .ok (.iconst 4, 1) := by decide +kernel
theorem dX12_isRuled_14 : decode cX12_isRuled 14 = .ok (.iadd, 1) := by decide +kernel
theorem dX12_isRuled_15 : decode cX12_isRuled 15 = .ok (.iaload, 1) := by decide +kernel
theorem dX12_isRuled_16 : decode cX12_isRuled 16 = .ok (.istore_n 3, 1) := by decide +kernel
theorem dX12_isRuled_17 : decode cX12_isRuled 17 = .ok (.aload_n 0, 1) := by decide +kernel
theorem dX12_isRuled_18 : decode cX12_isRuled 18 = .ok (.getfield 39, 3) := by decide +kernel
theorem dX12_isRuled_21 : decode cX12_isRuled 21 = .ok (.iload_n 2, 1) := by decide +kernel
theorem dX12_isRuled_22 : decode cX12_isRuled 22 = .ok (.iconst 4, 1) := by decide +kernel
theorem dX12_isRuled_23 : decode cX12_isRuled 23 = .ok (.iadd, 1) := by decide +kernel
theorem dX12_isRuled_24 : decode cX12_isRuled 24 = .ok (.iconst (-1), 1) := by decide +kernel
theorem dX12_isRuled_25 : decode cX12_isRuled 25 = .ok (.iastore, 1) := by decide +kernel
theorem dX12_isRuled_26 : decode cX12_isRuled 26 = .ok (.aload_n 0, 1) := by decide +kernel
theorem dX12_isRuled_27 : decode cX12_isRuled 27 = .ok (.getfield 39, 3) := by decide +kernel
theorem dX12_isRuled_30 : decode cX12_isRuled 30 = .ok (.iload_n 2, 1) := by decide +kernel
theorem dX12_isRuled_31 : decode cX12_isRuled 31 = .ok (.bipush 6, 2) := by decide +kernel
theorem dX12_isRuled_33 : decode cX12_isRuled 33 = .ok (.iadd, 1) := by decide +kernel
theorem dX12_isRuled_34 : decode cX12_isRuled 34 = .ok (.iload_n 3, 1) := by decide +kernel
theorem dX12_isRuled_35 : decode cX12_isRuled 35 = .ok (.iastore, 1) := by decide +kernel
theorem dX12_isRuled_36 : decode cX12_isRuled 36 = .ok (.aload_n 0, 1) := by decide +kernel
theorem dX12_isRuled_37 : decode cX12_isRuled 37 = .ok (.getfield 39, 3) := by decide +kernel
theorem dX12_isRuled_40 : decode cX12_isRuled 40 = .ok (.iload_n 2, 1) := by decide +kernel
theorem dX12_isRuled_41 : decode cX12_isRuled 41 = .ok (.bipush 7, 2) := by decide +kernel
theorem dX12_isRuled_43 : decode cX12_isRuled 43 = .ok (.iadd, 1) := by decide +kernel
theorem dX12_isRuled_44 : decode cX12_isRuled 44 = .ok (.aload_n 0, 1) := by decide +kernel
theorem dX12_isRuled_45 : decode cX12_isRuled 45 = .ok (.getfield 39, 3) := by decide +kernel
theorem dX12_isRuled_48 : decode cX12_isRuled 48 = .ok (.iload_n 2, 1) := by decide +kernel
theorem dX12_isRuled_49 : decode cX12_isRuled 49 = .ok (.bipush 10, 2) := by decide +kernel
theorem dX12_isRuled_51 : decode cX12_isRuled 51 = .ok (.iadd, 1) := by decide +kernel
theorem dX12_isRuled_52 : decode cX12_isRuled 52 = .ok (.iaload, 1) := by decide +kernel
theorem dX12_isRuled_53 : decode cX12_isRuled 53 = .ok (.iastore, 1) := by decide +kernel
theorem dX12_isRuled_54 : decode cX12_isRuled 54 = .ok (.aload_n 0, 1) := by decide +kernel
theorem dX12_isRuled_55 : decode cX12_isRuled 55 = .ok (.getfield 39, 3) := by decide +kernel
theorem dX12_isRuled_58 : decode cX12_isRuled 58 = .ok (.iload_n 2, 1) := by decide +kernel
theorem dX12_isRuled_59 : decode cX12_isRuled 59 = .ok (.bipush 8, 2) := by decide +kernel
theorem dX12_isRuled_61 : decode cX12_isRuled 61 = .ok (.iadd, 1) := by decide +kernel
theorem dX12_isRuled_62 : decode cX12_isRuled 62 = .ok (.aload_n 0, 1) := by decide +kernel
theorem dX12_isRuled_63 : decode cX12_isRuled 63 = .ok (.iload_n 3, 1) := by decide +kernel
theorem dX12_isRuled_64 : decode cX12_isRuled 64 = .ok (.aload_n 0, 1) := by decide +kernel
theorem dX12_isRuled_65 : decode cX12_isRuled 65 = .ok (.getfield 39, 3) := by decide +kernel
theorem dX12_isRuled_68 : decode cX12_isRuled 68 = .ok (.iconst 4, 1) := by decide +kernel
theorem dX12_isRuled_69 : decode cX12_isRuled 69 = .ok (.iaload, 1) := by decide +kernel
theorem dX12_isRuled_70 : decode cX12_isRuled 70 = .ok (.invokevirtual 316, 3) := by decide +kernel
theorem dX12_isRuled_73 : decode cX12_isRuled 73 = .ok (.iastore, 1) := by decide +kernel
theorem dX12_isRuled_74 : decode cX12_isRuled 74 = .ok (.aload_n 0, 1) := by decide +kernel
theorem dX12_isRuled_75 : decode cX12_isRuled 75 = .ok (.getfield 39, 3) := by decide +kernel
theorem dX12_isRuled_78 : decode cX12_isRuled 78 = .ok (.iload_n 2, 1) := by decide +kernel
theorem dX12_isRuled_79 : decode cX12_isRuled 79 = .ok (.bipush 9, 2) := by decide +kernel
theorem dX12_isRuled_81 : decode cX12_isRuled 81 = .ok (.iadd, 1) := by decide +kernel
theorem dX12_isRuled_82 : decode cX12_isRuled 82 = .ok (.dup2, 1) := by decide +kernel
theorem dX12_isRuled_83 : decode cX12_isRuled 83 = .ok (.iaload, 1) := by decide +kernel
theorem dX12_isRuled_84 : decode cX12_isRuled 84 = .ok (.iconst 1, 1) := by decide +kernel
theorem dX12_isRuled_85 : decode cX12_isRuled 85 = .ok (.iadd, 1) := by decide +kernel
theorem dX12_isRuled_86 : decode cX12_isRuled 86 = .ok (.iastore, 1) := by decide +kernel
theorem dX12_isRuled_87 : decode cX12_isRuled 87 = .ok (.aload_n 0, 1) := by decide +kernel
theorem dX12_isRuled_88 : decode cX12_isRuled 88 = .ok (.getfield 39, 3) := by decide +kernel
theorem dX12_isRuled_91 : decode cX12_isRuled 91 = .ok (.bipush 10, 2) := by decide +kernel
theorem dX12_isRuled_93 : decode cX12_isRuled 93 = .ok (.iconst 5, 1) := by decide +kernel
theorem dX12_isRuled_94 : decode cX12_isRuled 94 = .ok (.iload_n 3, 1) := by decide +kernel
theorem dX12_isRuled_95 : decode cX12_isRuled 95 = .ok (.imul, 1) := by decide +kernel
theorem dX12_isRuled_96 : decode cX12_isRuled 96 = .ok (.iadd, 1) := by decide +kernel
theorem dX12_isRuled_97 : decode cX12_isRuled 97 = .ok (.iconst 4, 1) := by decide +kernel
theorem dX12_isRuled_98 : decode cX12_isRuled 98 = .ok (.iadd, 1) := by decide +kernel
theorem dX12_isRuled_99 : decode cX12_isRuled 99 = .ok (.dup2, 1) := by decide +kernel
theorem dX12_isRuled_100 : decode cX12_isRuled 100 = .ok (.iaload, 1) := by decide +kernel
theorem dX12_isRuled_101 : decode cX12_isRuled 101 = .ok (.iconst 1, 1) := by decide +kernel
theorem dX12_isRuled_102 : decode cX12_isRuled 102 = .ok (.iadd, 1) := by decide +kernel
theorem dX12_isRuled_103 : decode cX12_isRuled 103 = .ok (.iastore, 1) := by decide +kernel
theorem dX12_isRuled_104 : decode cX12_isRuled 104 = .ok (.return_, 1) := by decide +kernel
theorem dX12_passes_0 : decode cX12_passes 0 = .ok (.iconst 0, 1) := by decide +kernel
theorem dX12_passes_1 : decode cX12_passes 1 = .ok (.istore_n 1, 1) := by decide +kernel
theorem dX12_passes_2 : decode cX12_passes 2 = .ok (.iconst 0, 1) := by decide +kernel
theorem dX12_passes_3 : decode cX12_passes 3 = .ok (.istore_n 2, 1) := by decide +kernel
theorem dX12_passes_4 : decode cX12_passes 4 = .ok (.iload_n 2, 1) := by decide +kernel
theorem dX12_passes_5 : decode cX12_passes 5 = .ok (.aload_n 0, 1) := by decide +kernel
theorem dX12_passes_6 : decode cX12_passes 6 = .ok (.getfield 39, 3) := by decide +kernel
theorem dX12_passes_9 : decode cX12_passes 9 = .ok (.iconst 3, 1) := by decide +kernel
theorem dX12_passes_10 : decode cX12_passes 10 = .ok (.iaload, 1) := by decide +kernel
theorem dX12_passes_11 : decode cX12_passes 11 = .ok (.if_icmp .ge 62, 3) := by decide +kernel
theorem dX12_passes_14 : decode cX12_passes 14 = .ok (.aload_n 0, 1) := by decide +kernel
theorem dX12_passes_15 : decode cX12_passes 15 = .ok (.iload_n 2, 1) := by decide +kernel
theorem dX12_passes_16 : decode cX12_passes 16 = .ok (.iconst 4, 1) := by decide +kernel
theorem dX12_passes_17 : decode cX12_passes 17 = .ok (.invokevirtual 331, 3) := by decide +kernel
theorem dX12_passes_20 : decode cX12_passes 20 = .ok (.ifCond .ge 6, 3) := by decide +kernel
theorem dX12_passes_23 : decode cX12_passes 23 = .ok (.goto 44, 3) := by decide +kernel
theorem dX12_passes_26 : decode cX12_passes 26 = .ok (.aload_n 0, 1) := by decide +kernel
theorem dX12_passes_27 : decode cX12_passes 27 = .ok (.getfield 39, 3) := by decide +kernel
theorem dX12_passes_30 : decode cX12_passes 30 = .ok (.bipush 45, 2) := by decide +kernel
theorem dX12_passes_32 : decode cX12_passes 32 = .ok (.bipush 11, 2) := by decide +kernel
theorem dX12_passes_34 : decode cX12_passes 34 = .ok (.iload_n 2, 1) := by decide +kernel
theorem dX12_passes_35 : decode cX12_passes 35 = .ok (.imul, 1) := by decide +kernel
theorem dX12_passes_36 : decode cX12_passes 36 = .ok (.iadd, 1) := by decide +kernel
theorem dX12_passes_37 : decode cX12_passes 37 = .ok (.iconst 5, 1) := by decide +kernel
theorem dX12_passes_38 : decode cX12_passes 38 = .ok (.iadd, 1) := by decide +kernel
theorem dX12_passes_39 : decode cX12_passes 39 = .ok (.dup2, 1) := by decide +kernel
theorem dX12_passes_40 : decode cX12_passes 40 = .ok (.iaload, 1) := by decide +kernel
theorem dX12_passes_41 : decode cX12_passes 41 = .ok (.iconst 1, 1) := by decide +kernel
theorem dX12_passes_42 : decode cX12_passes 42 = .ok (.isub, 1) := by decide +kernel
theorem dX12_passes_43 : decode cX12_passes 43 = .ok (.iastore, 1) := by decide +kernel
theorem dX12_passes_44 : decode cX12_passes 44 = .ok (.aload_n 0, 1) := by decide +kernel
theorem dX12_passes_45 : decode cX12_passes 45 = .ok (.iload_n 2, 1) := by decide +kernel
theorem dX12_passes_46 : decode cX12_passes 46 = .ok (.iconst 5, 1) := by decide +kernel
theorem dX12_passes_47 : decode cX12_passes 47 = .ok (.invokevirtual 331, 3) := by decide +kernel
theorem dX12_passes_50 : decode cX12_passes 50 = .ok (.ifCond .le 6, 3) := by decide +kernel
theorem dX12_passes_53 : decode cX12_passes 53 = .ok (.goto 14, 3) := by decide +kernel
theorem dX12_passes_56 : decode cX12_passes 56 = .ok (.aload_n 0, 1) := by decide +kernel
theorem dX12_passes_57 : decode cX12_passes 57 = .ok (.iload_n 2, 1) := by decide +kernel
theorem dX12_passes_58 : decode cX12_passes 58 = .ok (.invokevirtual 377, 3) := by decide +kernel
theorem dX12_passes_61 : decode cX12_passes 61 = .ok (.iload_n 1, 1) := by decide +kernel
theorem dX12_passes_62 : decode cX12_passes 62 = .ok (.iconst 1, 1) := by decide +kernel
theorem dX12_passes_63 : decode cX12_passes 63 = .ok (.iload_n 2, 1) := by decide +kernel
theorem dX12_passes_64 : decode cX12_passes 64 = .ok (.ishl, 1) := by decide +kernel
theorem dX12_passes_65 : decode cX12_passes 65 = .ok (.ior, 1) := by decide +kernel
theorem dX12_passes_66 : decode cX12_passes 66 = .ok (.istore_n 1, 1) := by decide +kernel
theorem dX12_passes_67 : decode cX12_passes 67 = .ok (.iinc 2 1, 3) := by decide +kernel
theorem dX12_passes_70 : decode cX12_passes 70 = .ok (.goto (-66), 3) := by decide +kernel
theorem dX12_passes_73 : decode cX12_passes 73 = .ok (.aload_n 0, 1) := by decide +kernel
theorem dX12_passes_74 : decode cX12_passes 74 = .ok (.getfield 39, 3) := by decide +kernel
theorem dX12_passes_77 : decode cX12_passes 77 = .ok (.iconst 4, 1) := by decide +kernel
theorem dX12_passes_78 : decode cX12_passes 78 = .ok (.dup2, 1) := by decide +kernel
theorem dX12_passes_79 : decode cX12_passes 79 = .ok (.iaload, 1) := by decide +kernel
theorem dX12_passes_80 : decode cX12_passes 80 = .ok (.iconst 1, 1) := by decide +kernel
theorem dX12_passes_81 : decode cX12_passes 81 = .ok (.iadd, 1) := by decide +kernel
theorem dX12_passes_82 : decode cX12_passes 82 = .ok (.iastore, 1) := by decide +kernel
theorem dX12_passes_83 : decode cX12_passes 83 = .ok (.iload_n 1, 1) := by decide +kernel
theorem dX12_passes_84 : decode cX12_passes 84 = .ok (.ireturn, 1) := by decide +kernel
theorem dX12_bits_0 : decode cX12_bits 0 = .ok (.iconst 0, 1) := by decide +kernel
theorem dX12_bits_1 : decode cX12_bits 1 = .ok (.istore_n 1, 1) := by decide +kernel
theorem dX12_bits_2 : decode cX12_bits 2 = .ok (.iload_n 0, 1) := by decide +kernel
theorem dX12_bits_3 : decode cX12_bits 3 = .ok (.istore_n 2, 1) := by decide +kernel
theorem dX12_bits_4 : decode cX12_bits 4 = .ok (.iload_n 2, 1) := by decide +kernel
theorem dX12_bits_5 : decode cX12_bits 5 = .ok (.ifCond .eq 15, 3) := by decide +kernel
theorem dX12_bits_8 : decode cX12_bits 8 = .ok (.iinc 1 1, 3) := by decide +kernel
theorem dX12_bits_11 : decode cX12_bits 11 = .ok (.iload_n 2, 1) := by decide +kernel
theorem dX12_bits_12 : decode cX12_bits 12 = .ok (.iload_n 2, 1) := by decide +kernel
theorem dX12_bits_13 : decode cX12_bits 13 = .ok (.iconst 1, 1) := by decide +kernel
theorem dX12_bits_14 : decode cX12_bits 14 = .ok (.isub, 1) := by decide +kernel
theorem dX12_bits_15 : decode cX12_bits 15 = .ok (.iand, 1) := by decide +kernel
theorem dX12_bits_16 : decode cX12_bits 16 = .ok (.istore_n 2, 1) := by decide +kernel
theorem dX12_bits_17 : decode cX12_bits 17 = .ok (.goto (-13), 3) := by decide +kernel
theorem dX12_bits_20 : decode cX12_bits 20 = .ok (.iload_n 1, 1) := by decide +kernel
theorem dX12_bits_21 : decode cX12_bits 21 = .ok (.ireturn, 1) := by decide +kernel
theorem dX12_day_0 : decode cX12_day 0 = .ok (.aload_n 0, 1) := by decide +kernel
theorem dX12_day_1 : decode cX12_day 1 = .ok (.invokevirtual 380, 3) := by decide +kernel
theorem dX12_day_4 : decode cX12_day 4 = .ok (.ifCond .eq 15, 3) := by decide +kernel
theorem dX12_day_7 : decode cX12_day 7 = .ok (.aload_n 0, 1) := by decide +kernel
theorem dX12_day_8 : decode cX12_day 8 = .ok (.getfield 39, 3) := by decide +kernel
theorem dX12_day_11 : decode cX12_day 11 = .ok (.iconst 4, 1) := by decide +kernel
theorem dX12_day_12 : decode cX12_day 12 = .ok (.iaload, 1) := by decide +kernel
theorem dX12_day_13 : decode cX12_day 13 = .ok (.sipush 999, 3) := by decide +kernel
theorem dX12_day_16 : decode cX12_day 16 = .ok (.if_icmp .ne 5, 3) := by decide +kernel
theorem dX12_day_19 : decode cX12_day 19 = .ok (.iconst (-1), 1) := by decide +kernel
theorem dX12_day_20 : decode cX12_day 20 = .ok (.ireturn, 1) := by decide +kernel
theorem dX12_day_21 : decode cX12_day 21 = .ok (.aload_n 0, 1) := by decide +kernel
theorem dX12_day_22 : decode cX12_day 22 = .ok (.invokevirtual 383, 3) := by decide +kernel
theorem dX12_day_25 : decode cX12_day 25 = .ok (.aload_n 0, 1) := by decide +kernel
theorem dX12_day_26 : decode cX12_day 26 = .ok (.invokevirtual 386, 3) := by decide +kernel
theorem dX12_day_29 : decode cX12_day 29 = .ok (.invokestatic 389, 3) := by decide +kernel
theorem dX12_day_32 : decode cX12_day 32 = .ok (.ireturn, 1) := by decide +kernel
theorem dX12_mayHear_0 : decode cX12_mayHear 0 = .ok (.aload_n 0, 1) := by decide +kernel
theorem dX12_mayHear_1 : decode cX12_mayHear 1 = .ok (.iload_n 1, 1) := by decide +kernel
theorem dX12_mayHear_2 : decode cX12_mayHear 2 = .ok (.iconst 4, 1) := by decide +kernel
theorem dX12_mayHear_3 : decode cX12_mayHear 3 = .ok (.invokevirtual 331, 3) := by decide +kernel
theorem dX12_mayHear_6 : decode cX12_mayHear 6 = .ok (.ifCond .ge 26, 3) := by decide +kernel
theorem dX12_mayHear_9 : decode cX12_mayHear 9 = .ok (.aload_n 0, 1) := by decide +kernel
theorem dX12_mayHear_10 : decode cX12_mayHear 10 = .ok (.iload_n 2, 1) := by decide +kernel
theorem dX12_mayHear_11 : decode cX12_mayHear 11 = .ok (.invokevirtual 344, 3) := by decide +kernel
theorem dX12_mayHear_14 : decode cX12_mayHear 14 = .ok (.ifCond .ge 18, 3) := by decide +kernel
theorem dX12_mayHear_17 : decode cX12_mayHear 17 = .ok (.aload_n 0, 1) := by decide +kernel
theorem dX12_mayHear_18 : decode cX12_mayHear 18 = .ok (.iload_n 1, 1) := by decide +kernel
theorem dX12_mayHear_19 : decode cX12_mayHear 19 = .ok (.iload_n 2, 1) := by decide +kernel
theorem dX12_mayHear_20 : decode cX12_mayHear 20 = .ok (.aload_n 0, 1) := by decide +kernel
theorem dX12_mayHear_21 : decode cX12_mayHear 21 = .ok (.getfield 39, 3) := by decide +kernel
theorem dX12_mayHear_24 : decode cX12_mayHear 24 = .ok (.iconst 4, 1) := by decide +kernel
theorem dX12_mayHear_25 : decode cX12_mayHear 25 = .ok (.iaload, 1) := by decide +kernel
theorem dX12_mayHear_26 : decode cX12_mayHear 26 = .ok (.invokevirtual 354, 3) := by decide +kernel
theorem dX12_mayHear_29 : decode cX12_mayHear 29 = .ok (.ifCond .ne 5, 3) := by decide +kernel
theorem dX12_mayHear_32 : decode cX12_mayHear 32 = .ok (.iconst 0, 1) := by decide +kernel
theorem dX12_mayHear_33 : decode cX12_mayHear 33 = .ok (.ireturn, 1) := by decide +kernel
theorem dX12_mayHear_34 : decode cX12_mayHear 34 = .ok (.aload_n 0, 1) := by decide +kernel
theorem dX12_mayHear_35 : decode cX12_mayHear 35 = .ok (.iload_n 1, 1) := by decide +kernel
theorem dX12_mayHear_36 : decode cX12_mayHear 36 = .ok (.bipush 9, 2) := by decide +kernel
theorem dX12_mayHear_38 : decode cX12_mayHear 38 = .ok (.invokevirtual 331, 3) := by decide +kernel
theorem dX12_mayHear_41 : decode cX12_mayHear 41 = .ok (.ifCond .eq 18, 3) := by decide +kernel
theorem dX12_mayHear_44 : decode cX12_mayHear 44 = .ok (.aload_n 0, 1) := by decide +kernel
theorem dX12_mayHear_45 : decode cX12_mayHear 45 = .ok (.iload_n 2, 1) := by decide +kernel
theorem dX12_mayHear_46 : decode cX12_mayHear 46 = .ok (.aload_n 0, 1) := by decide +kernel
theorem dX12_mayHear_47 : decode cX12_mayHear 47 = .ok (.iload_n 1, 1) := by decide +kernel
theorem dX12_mayHear_48 : decode cX12_mayHear 48 = .ok (.bipush 6, 2) := by decide +kernel
theorem dX12_mayHear_50 : decode cX12_mayHear 50 = .ok (.invokevirtual 331, 3) := by decide +kernel
theorem dX12_mayHear_53 : decode cX12_mayHear 53 = .ok (.invokevirtual 319, 3) := by decide +kernel
theorem dX12_mayHear_56 : decode cX12_mayHear 56 = .ok (.ifCond .eq 7, 3) := by decide +kernel
theorem dX12_mayHear_59 : decode cX12_mayHear 59 = .ok (.iconst 1, 1) := by decide +kernel
theorem dX12_mayHear_60 : decode cX12_mayHear 60 = .ok (.goto 4, 3) := by decide +kernel
theorem dX12_mayHear_63 : decode cX12_mayHear 63 = .ok (.iconst 0, 1) := by decide +kernel
theorem dX12_mayHear_64 : decode cX12_mayHear 64 = .ok (.ireturn, 1) := by decide +kernel
theorem dX12_begins_0 : decode cX12_begins 0 = .ok (.bipush 45, 2) := by decide +kernel
theorem dX12_begins_2 : decode cX12_begins 2 = .ok (.bipush 11, 2) := by decide +kernel
theorem dX12_begins_4 : decode cX12_begins 4 = .ok (.iload_n 1, 1) := by decide +kernel
theorem dX12_begins_5 : decode cX12_begins 5 = .ok (.imul, 1) := by decide +kernel
theorem dX12_begins_6 : decode cX12_begins 6 = .ok (.iadd, 1) := by decide +kernel
theorem dX12_begins_7 : decode cX12_begins 7 = .ok (.istore_n 3, 1) := by decide +kernel
theorem dX12_begins_8 : decode cX12_begins 8 = .ok (.aload_n 0, 1) := by decide +kernel
theorem dX12_begins_9 : decode cX12_begins 9 = .ok (.iload_n 1, 1) := by decide +kernel
theorem dX12_begins_10 : decode cX12_begins 10 = .ok (.iload_n 2, 1) := by decide +kernel
theorem dX12_begins_11 : decode cX12_begins 11 = .ok (.aload_n 0, 1) := by decide +kernel
theorem dX12_begins_12 : decode cX12_begins 12 = .ok (.getfield 39, 3) := by decide +kernel
theorem dX12_begins_15 : decode cX12_begins 15 = .ok (.iconst 4, 1) := by decide +kernel
theorem dX12_begins_16 : decode cX12_begins 16 = .ok (.iaload, 1) := by decide +kernel
theorem dX12_begins_17 : decode cX12_begins 17 = .ok (.invokevirtual 373, 3) := by decide +kernel
theorem dX12_begins_20 : decode cX12_begins 20 = .ok (.istore 4, 2) := by decide +kernel
theorem dX12_begins_22 : decode cX12_begins 22 = .ok (.aload_n 0, 1) := by decide +kernel
theorem dX12_begins_23 : decode cX12_begins 23 = .ok (.getfield 39, 3) := by decide +kernel
theorem dX12_begins_26 : decode cX12_begins 26 = .ok (.iload_n 3, 1) := by decide +kernel
theorem dX12_begins_27 : decode cX12_begins 27 = .ok (.iconst 4, 1) := by decide +kernel
theorem dX12_begins_28 : decode cX12_begins 28 = .ok (.iadd, 1) := by decide +kernel
theorem dX12_begins_29 : decode cX12_begins 29 = .ok (.iload_n 2, 1) := by decide +kernel
theorem dX12_begins_30 : decode cX12_begins 30 = .ok (.iastore, 1) := by decide +kernel
theorem dX12_begins_31 : decode cX12_begins 31 = .ok (.aload_n 0, 1) := by decide +kernel
theorem dX12_begins_32 : decode cX12_begins 32 = .ok (.getfield 39, 3) := by decide +kernel
theorem dX12_begins_35 : decode cX12_begins 35 = .ok (.iload_n 3, 1) := by decide +kernel
theorem dX12_begins_36 : decode cX12_begins 36 = .ok (.iconst 5, 1) := by decide +kernel
theorem dX12_begins_37 : decode cX12_begins 37 = .ok (.iadd, 1) := by decide +kernel
theorem dX12_begins_38 : decode cX12_begins 38 = .ok (.aload_n 0, 1) := by decide +kernel
theorem dX12_begins_39 : decode cX12_begins 39 = .ok (.getfield 39, 3) := by decide +kernel
theorem dX12_begins_42 : decode cX12_begins 42 = .ok (.iload_n 3, 1) := by decide +kernel
theorem dX12_begins_43 : decode cX12_begins 43 = .ok (.iconst 2, 1) := by decide +kernel
theorem dX12_begins_44 : decode cX12_begins 44 = .ok (.iadd, 1) := by decide +kernel
theorem dX12_begins_45 : decode cX12_begins 45 = .ok (.iaload, 1) := by decide +kernel
theorem dX12_begins_46 : decode cX12_begins 46 = .ok (.iastore, 1) := by decide +kernel
theorem dX12_begins_47 : decode cX12_begins 47 = .ok (.aload_n 0, 1) := by decide +kernel
theorem dX12_begins_48 : decode cX12_begins 48 = .ok (.getfield 39, 3) := by decide +kernel
theorem dX12_begins_51 : decode cX12_begins 51 = .ok (.iload_n 3, 1) := by decide +kernel
theorem dX12_begins_52 : decode cX12_begins 52 = .ok (.bipush 10, 2) := by decide +kernel
theorem dX12_begins_54 : decode cX12_begins 54 = .ok (.iadd, 1) := by decide +kernel
theorem dX12_begins_55 : decode cX12_begins 55 = .ok (.iload 4, 2) := by decide +kernel
theorem dX12_begins_57 : decode cX12_begins 57 = .ok (.iastore, 1) := by decide +kernel
theorem dX12_begins_58 : decode cX12_begins 58 = .ok (.iload 4, 2) := by decide +kernel
theorem dX12_begins_60 : decode cX12_begins 60 = .ok (.ireturn, 1) := by decide +kernel
theorem dX12_hear_0 : decode cX12_hear 0 = .ok (.aload_n 0, 1) := by decide +kernel
theorem dX12_hear_1 : decode cX12_hear 1 = .ok (.iload_n 1, 1) := by decide +kernel
theorem dX12_hear_2 : decode cX12_hear 2 = .ok (.invokevirtual 347, 3) := by decide +kernel
theorem dX12_hear_5 : decode cX12_hear 5 = .ok (.ifCond .eq 20, 3) := by decide +kernel
theorem dX12_hear_8 : decode cX12_hear 8 = .ok (.aload_n 0, 1) := by decide +kernel
theorem dX12_hear_9 : decode cX12_hear 9 = .ok (.iload_n 2, 1) := by decide +kernel
theorem dX12_hear_10 : decode cX12_hear 10 = .ok (.invokevirtual 341, 3) := by decide +kernel
theorem dX12_hear_13 : decode cX12_hear 13 = .ok (.ifCond .eq 12, 3) := by decide +kernel
theorem dX12_hear_16 : decode cX12_hear 16 = .ok (.aload_n 0, 1) := by decide +kernel
theorem dX12_hear_17 : decode cX12_hear 17 = .ok (.iload_n 1, 1) := by decide +kernel
theorem dX12_hear_18 : decode cX12_hear 18 = .ok (.iload_n 2, 1) := by decide +kernel
theorem dX12_hear_19 : decode cX12_hear 19 = .ok (.invokevirtual 392, 3) := by decide +kernel
theorem dX12_hear_22 : decode cX12_hear 22 = .ok (.ifCond .ne 5, 3) := by decide +kernel
theorem dX12_hear_25 : decode cX12_hear 25 = .ok (.iconst (-1), 1) := by decide +kernel
theorem dX12_hear_26 : decode cX12_hear 26 = .ok (.ireturn, 1) := by decide +kernel
theorem dX12_hear_27 : decode cX12_hear 27 = .ok (.aload_n 0, 1) := by decide +kernel
theorem dX12_hear_28 : decode cX12_hear 28 = .ok (.invokevirtual 383, 3) := by decide +kernel
theorem dX12_hear_31 : decode cX12_hear 31 = .ok (.aload_n 0, 1) := by decide +kernel
theorem dX12_hear_32 : decode cX12_hear 32 = .ok (.iload_n 1, 1) := by decide +kernel
theorem dX12_hear_33 : decode cX12_hear 33 = .ok (.iload_n 2, 1) := by decide +kernel
theorem dX12_hear_34 : decode cX12_hear 34 = .ok (.invokevirtual 395, 3) := by decide +kernel
theorem dX12_hear_37 : decode cX12_hear 37 = .ok (.ireturn, 1) := by decide +kernel
theorem dX12_teach_0 : decode cX12_teach 0 = .ok (.aload_n 0, 1) := by decide +kernel
theorem dX12_teach_1 : decode cX12_teach 1 = .ok (.iload_n 1, 1) := by decide +kernel
theorem dX12_teach_2 : decode cX12_teach 2 = .ok (.invokevirtual 341, 3) := by decide +kernel
theorem dX12_teach_5 : decode cX12_teach 5 = .ok (.ifCond .eq 14, 3) := by decide +kernel
theorem dX12_teach_8 : decode cX12_teach 8 = .ok (.aload_n 0, 1) := by decide +kernel
theorem dX12_teach_9 : decode cX12_teach 9 = .ok (.iload_n 1, 1) := by decide +kernel
theorem dX12_teach_10 : decode cX12_teach 10 = .ok (.iconst 1, 1) := by decide +kernel
theorem dX12_teach_11 : decode cX12_teach 11 = .ok (.invokevirtual 312, 3) := by decide +kernel
theorem dX12_teach_14 : decode cX12_teach 14 = .ok (.bipush 9, 2) := by decide +kernel
theorem dX12_teach_16 : decode cX12_teach 16 = .ok (.if_icmp .ne 5, 3) := by decide +kernel
theorem dX12_teach_19 : decode cX12_teach 19 = .ok (.iconst (-1), 1) := by decide +kernel
theorem dX12_teach_20 : decode cX12_teach 20 = .ok (.ireturn, 1) := by decide +kernel
theorem dX12_teach_21 : decode cX12_teach 21 = .ok (.aload_n 0, 1) := by decide +kernel
theorem dX12_teach_22 : decode cX12_teach 22 = .ok (.invokevirtual 383, 3) := by decide +kernel
theorem dX12_teach_25 : decode cX12_teach 25 = .ok (.aload_n 0, 1) := by decide +kernel
theorem dX12_teach_26 : decode cX12_teach 26 = .ok (.getfield 39, 3) := by decide +kernel
theorem dX12_teach_29 : decode cX12_teach 29 = .ok (.bipush 10, 2) := by decide +kernel
theorem dX12_teach_31 : decode cX12_teach 31 = .ok (.iconst 5, 1) := by decide +kernel
theorem dX12_teach_32 : decode cX12_teach 32 = .ok (.iload_n 1, 1) := by decide +kernel
theorem dX12_teach_33 : decode cX12_teach 33 = .ok (.imul, 1) := by decide +kernel
theorem dX12_teach_34 : decode cX12_teach 34 = .ok (.iadd, 1) := by decide +kernel
theorem dX12_teach_35 : decode cX12_teach 35 = .ok (.iconst 1, 1) := by decide +kernel
theorem dX12_teach_36 : decode cX12_teach 36 = .ok (.iadd, 1) := by decide +kernel
theorem dX12_teach_37 : decode cX12_teach 37 = .ok (.dup2, 1) := by decide +kernel
theorem dX12_teach_38 : decode cX12_teach 38 = .ok (.iaload, 1) := by decide +kernel
theorem dX12_teach_39 : decode cX12_teach 39 = .ok (.iconst 1, 1) := by decide +kernel
theorem dX12_teach_40 : decode cX12_teach 40 = .ok (.iadd, 1) := by decide +kernel
theorem dX12_teach_41 : decode cX12_teach 41 = .ok (.iastore, 1) := by decide +kernel
theorem dX12_teach_42 : decode cX12_teach 42 = .ok (.aload_n 0, 1) := by decide +kernel
theorem dX12_teach_43 : decode cX12_teach 43 = .ok (.iload_n 1, 1) := by decide +kernel
theorem dX12_teach_44 : decode cX12_teach 44 = .ok (.iconst 1, 1) := by decide +kernel
theorem dX12_teach_45 : decode cX12_teach 45 = .ok (.invokevirtual 312, 3) := by decide +kernel
theorem dX12_teach_48 : decode cX12_teach 48 = .ok (.ireturn, 1) := by decide +kernel
theorem dX12_soonest_0 : decode cX12_soonest 0 = .ok (.aload_n 0, 1) := by decide +kernel
theorem dX12_soonest_1 : decode cX12_soonest 1 = .ok (.iload_n 1, 1) := by decide +kernel
theorem dX12_soonest_2 : decode cX12_soonest 2 = .ok (.invokevirtual 347, 3) := by decide +kernel
theorem dX12_soonest_5 : decode cX12_soonest 5 = .ok (.ifCond .eq 11, 3) := by decide +kernel
theorem dX12_soonest_8 : decode cX12_soonest 8 = .ok (.aload_n 0, 1) := by decide +kernel
theorem dX12_soonest_9 : decode cX12_soonest 9 = .ok (.iload_n 2, 1) := by decide +kernel
theorem dX12_soonest_10 : decode cX12_soonest 10 = .ok (.invokevirtual 341, 3) := by decide +kernel
theorem dX12_soonest_13 : decode cX12_soonest 13 = .ok (.ifCond .ne 5, 3) := by decide +kernel
theorem dX12_soonest_16 : decode cX12_soonest 16 = .ok (.iconst (-1), 1) := by decide +kernel
theorem dX12_soonest_17 : decode cX12_soonest 17 = .ok (.ireturn, 1) := by decide +kernel
theorem dX12_soonest_18 : decode cX12_soonest 18 = .ok (.aload_n 0, 1) := by decide +kernel
theorem dX12_soonest_19 : decode cX12_soonest 19 = .ok (.getfield 39, 3) := by decide +kernel
theorem dX12_soonest_22 : decode cX12_soonest 22 = .ok (.iconst 4, 1) := by decide +kernel
theorem dX12_soonest_23 : decode cX12_soonest 23 = .ok (.iaload, 1) := by decide +kernel
theorem dX12_soonest_24 : decode cX12_soonest 24 = .ok (.istore_n 3, 1) := by decide +kernel
theorem dX12_soonest_25 : decode cX12_soonest 25 = .ok (.iload_n 3, 1) := by decide +kernel
theorem dX12_soonest_26 : decode cX12_soonest 26 = .ok (.aload_n 0, 1) := by decide +kernel
theorem dX12_soonest_27 : decode cX12_soonest 27 = .ok (.getfield 39, 3) := by decide +kernel
theorem dX12_soonest_30 : decode cX12_soonest 30 = .ok (.iconst 4, 1) := by decide +kernel
theorem dX12_soonest_31 : decode cX12_soonest 31 = .ok (.iaload, 1) := by decide +kernel
theorem dX12_soonest_32 : decode cX12_soonest 32 = .ok (.bipush 100, 2) := by decide +kernel
theorem dX12_soonest_34 : decode cX12_soonest 34 = .ok (.iadd, 1) := by decide +kernel
theorem dX12_soonest_35 : decode cX12_soonest 35 = .ok (.if_icmp .ge 21, 3) := by decide +kernel
theorem dX12_soonest_38 : decode cX12_soonest 38 = .ok (.aload_n 0, 1) := by decide +kernel
theorem dX12_soonest_39 : decode cX12_soonest 39 = .ok (.iload_n 1, 1) := by decide +kernel
theorem dX12_soonest_40 : decode cX12_soonest 40 = .ok (.iload_n 2, 1) := by decide +kernel
theorem dX12_soonest_41 : decode cX12_soonest 41 = .ok (.iload_n 3, 1) := by decide +kernel
theorem dX12_soonest_42 : decode cX12_soonest 42 = .ok (.invokevirtual 354, 3) := by decide +kernel
theorem dX12_soonest_45 : decode cX12_soonest 45 = .ok (.ifCond .eq 5, 3) := by decide +kernel
theorem dX12_soonest_48 : decode cX12_soonest 48 = .ok (.iload_n 3, 1) := by decide +kernel
theorem dX12_soonest_49 : decode cX12_soonest 49 = .ok (.ireturn, 1) := by decide +kernel
theorem dX12_soonest_50 : decode cX12_soonest 50 = .ok (.iinc 3 1, 3) := by decide +kernel
theorem dX12_soonest_53 : decode cX12_soonest 53 = .ok (.goto (-28), 3) := by decide +kernel
theorem dX12_soonest_56 : decode cX12_soonest 56 = .ok (.bipush (-2), 2) := by decide +kernel
theorem dX12_soonest_58 : decode cX12_soonest 58 = .ok (.ireturn, 1) := by decide +kernel
theorem dX12_spot_0 : decode cX12_spot 0 = .ok (.iload_n 0, 1) := by decide +kernel
theorem dX12_spot_1 : decode cX12_spot 1 = .ok (.bipush 7, 2) := by decide +kernel
theorem dX12_spot_3 : decode cX12_spot 3 = .ok (.imul, 1) := by decide +kernel
theorem dX12_spot_4 : decode cX12_spot 4 = .ok (.iload_n 1, 1) := by decide +kernel
theorem dX12_spot_5 : decode cX12_spot 5 = .ok (.iadd, 1) := by decide +kernel
theorem dX12_spot_6 : decode cX12_spot 6 = .ok (.bipush 100, 2) := by decide +kernel
theorem dX12_spot_8 : decode cX12_spot 8 = .ok (.imul, 1) := by decide +kernel
theorem dX12_spot_9 : decode cX12_spot 9 = .ok (.iload_n 2, 1) := by decide +kernel
theorem dX12_spot_10 : decode cX12_spot 10 = .ok (.iadd, 1) := by decide +kernel
theorem dX12_spot_11 : decode cX12_spot 11 = .ok (.ireturn, 1) := by decide +kernel
theorem dX12_fillsOpen_0 : decode cX12_fillsOpen 0 = .ok (.aload_n 0, 1) := by decide +kernel
theorem dX12_fillsOpen_1 : decode cX12_fillsOpen 1 = .ok (.iconst 0, 1) := by decide +kernel
theorem dX12_fillsOpen_2 : decode cX12_fillsOpen 2 = .ok (.putfield 398, 3) := by decide +kernel
theorem dX12_fillsOpen_5 : decode cX12_fillsOpen 5 = .ok (.iconst 0, 1) := by decide +kernel
theorem dX12_fillsOpen_6 : decode cX12_fillsOpen 6 = .ok (.istore_n 1, 1) := by decide +kernel
theorem dX12_fillsOpen_7 : decode cX12_fillsOpen 7 = .ok (.iload_n 1, 1) := by decide +kernel
theorem dX12_fillsOpen_8 : decode cX12_fillsOpen 8 = .ok (.aload_n 0, 1) := by decide +kernel
theorem dX12_fillsOpen_9 : decode cX12_fillsOpen 9 = .ok (.getfield 39, 3) := by decide +kernel
theorem dX12_fillsOpen_12 : decode cX12_fillsOpen 12 = .ok (.iconst 3, 1) := by decide +kernel
theorem dX12_fillsOpen_13 : decode cX12_fillsOpen 13 = .ok (.iaload, 1) := by decide +kernel
theorem dX12_fillsOpen_14 : decode cX12_fillsOpen 14 = .ok (.if_icmp .ge 51, 3) := by decide +kernel
theorem dX12_fillsOpen_17 : decode cX12_fillsOpen 17 = .ok (.aload_n 0, 1) := by decide +kernel
theorem dX12_fillsOpen_18 : decode cX12_fillsOpen 18 = .ok (.iload_n 1, 1) := by decide +kernel
theorem dX12_fillsOpen_19 : decode cX12_fillsOpen 19 = .ok (.iconst 4, 1) := by decide +kernel
theorem dX12_fillsOpen_20 : decode cX12_fillsOpen 20 = .ok (.invokevirtual 331, 3) := by decide +kernel
theorem dX12_fillsOpen_23 : decode cX12_fillsOpen 23 = .ok (.ifCond .ge 36, 3) := by decide +kernel
theorem dX12_fillsOpen_26 : decode cX12_fillsOpen 26 = .ok (.aload_n 0, 1) := by decide +kernel
theorem dX12_fillsOpen_27 : decode cX12_fillsOpen 27 = .ok (.iload_n 1, 1) := by decide +kernel
theorem dX12_fillsOpen_28 : decode cX12_fillsOpen 28 = .ok (.bipush 9, 2) := by decide +kernel
theorem dX12_fillsOpen_30 : decode cX12_fillsOpen 30 = .ok (.invokevirtual 331, 3) := by decide +kernel
theorem dX12_fillsOpen_33 : decode cX12_fillsOpen 33 = .ok (.ifCond .le 6, 3) := by decide +kernel
theorem dX12_fillsOpen_36 : decode cX12_fillsOpen 36 = .ok (.goto 23, 3) := by decide +kernel
theorem dX12_fillsOpen_39 : decode cX12_fillsOpen 39 = .ok (.aload_n 0, 1) := by decide +kernel
theorem dX12_fillsOpen_40 : decode cX12_fillsOpen 40 = .ok (.getfield 49, 3) := by decide +kernel
theorem dX12_fillsOpen_43 : decode cX12_fillsOpen 43 = .ok (.aload_n 0, 1) := by decide +kernel
theorem dX12_fillsOpen_44 : decode cX12_fillsOpen 44 = .ok (.getfield 398, 3) := by decide +kernel
theorem dX12_fillsOpen_47 : decode cX12_fillsOpen 47 = .ok (.iload_n 1, 1) := by decide +kernel
theorem dX12_fillsOpen_48 : decode cX12_fillsOpen 48 = .ok (.iastore, 1) := by decide +kernel
theorem dX12_fillsOpen_49 : decode cX12_fillsOpen 49 = .ok (.aload_n 0, 1) := by decide +kernel
theorem dX12_fillsOpen_50 : decode cX12_fillsOpen 50 = .ok (.dup, 1) := by decide +kernel
theorem dX12_fillsOpen_51 : decode cX12_fillsOpen 51 = .ok (.getfield 398, 3) := by decide +kernel
theorem dX12_fillsOpen_54 : decode cX12_fillsOpen 54 = .ok (.iconst 1, 1) := by decide +kernel
theorem dX12_fillsOpen_55 : decode cX12_fillsOpen 55 = .ok (.iadd, 1) := by decide +kernel
theorem dX12_fillsOpen_56 : decode cX12_fillsOpen 56 = .ok (.putfield 398, 3) := by decide +kernel
theorem dX12_fillsOpen_59 : decode cX12_fillsOpen 59 = .ok (.iinc 1 1, 3) := by decide +kernel
theorem dX12_fillsOpen_62 : decode cX12_fillsOpen 62 = .ok (.goto (-55), 3) := by decide +kernel
theorem dX12_fillsOpen_65 : decode cX12_fillsOpen 65 = .ok (.return_, 1) := by decide +kernel
theorem dX12_fillsSpots_0 : decode cX12_fillsSpots 0 = .ok (.iconst 0, 1) := by decide +kernel
theorem dX12_fillsSpots_1 : decode cX12_fillsSpots 1 = .ok (.istore_n 1, 1) := by decide +kernel
theorem dX12_fillsSpots_2 : decode cX12_fillsSpots 2 = .ok (.iload_n 1, 1) := by decide +kernel
theorem dX12_fillsSpots_3 : decode cX12_fillsSpots 3 = .ok (.aload_n 0, 1) := by decide +kernel
theorem dX12_fillsSpots_4 : decode cX12_fillsSpots 4 = .ok (.getfield 398, 3) := by decide +kernel
theorem dX12_fillsSpots_7 : decode cX12_fillsSpots 7 = .ok (.if_icmp .ge 114, 3) := by decide +kernel
theorem dX12_fillsSpots_10 : decode cX12_fillsSpots 10 = .ok (.iconst 0, 1) := by decide +kernel
theorem dX12_fillsSpots_11 : decode cX12_fillsSpots 11 = .ok (.istore_n 2, 1) := by decide +kernel
theorem dX12_fillsSpots_12 : decode cX12_fillsSpots 12 = .ok (.iload_n 2, 1) := by decide +kernel
theorem dX12_fillsSpots_13 : decode cX12_fillsSpots 13 = .ok (.aload_n 0, 1) := by decide +kernel
theorem dX12_fillsSpots_14 : decode cX12_fillsSpots 14 = .ok (.getfield 39, 3) := by decide +kernel
theorem dX12_fillsSpots_17 : decode cX12_fillsSpots 17 = .ok (.iconst 2, 1) := by decide +kernel
theorem dX12_fillsSpots_18 : decode cX12_fillsSpots 18 = .ok (.iaload, 1) := by decide +kernel
theorem dX12_fillsSpots_19 : decode cX12_fillsSpots 19 = .ok (.if_icmp .ge 96, 3) := by decide +kernel
theorem dX12_fillsSpots_22 : decode cX12_fillsSpots 22 = .ok (.iconst 0, 1) := by decide +kernel
theorem dX12_fillsSpots_23 : decode cX12_fillsSpots 23 = .ok (.istore_n 3, 1) := by decide +kernel
theorem dX12_fillsSpots_24 : decode cX12_fillsSpots 24 = .ok (.iload_n 3, 1) := by decide +kernel
theorem dX12_fillsSpots_25 : decode cX12_fillsSpots 25 = .ok (.bipush 100, 2) := by decide +kernel
theorem dX12_fillsSpots_27 : decode cX12_fillsSpots 27 = .ok (.if_icmp .ge 82, 3) := by decide +kernel
theorem dX12_fillsSpots_30 : decode cX12_fillsSpots 30 = .ok (.aload_n 0, 1) := by decide +kernel
theorem dX12_fillsSpots_31 : decode cX12_fillsSpots 31 = .ok (.aload_n 0, 1) := by decide +kernel
theorem dX12_fillsSpots_32 : decode cX12_fillsSpots 32 = .ok (.getfield 49, 3) := by decide +kernel
theorem dX12_fillsSpots_35 : decode cX12_fillsSpots 35 = .ok (.iload_n 1, 1) := by decide +kernel
theorem dX12_fillsSpots_36 : decode cX12_fillsSpots 36 = .ok (.iaload, 1) := by decide +kernel
theorem dX12_fillsSpots_37 : decode cX12_fillsSpots 37 = .ok (.iload_n 2, 1) := by decide +kernel
theorem dX12_fillsSpots_38 : decode cX12_fillsSpots 38 = .ok (.aload_n 0, 1) := by decide +kernel
theorem dX12_fillsSpots_39 : decode cX12_fillsSpots 39 = .ok (.getfield 39, 3) := by decide +kernel
theorem dX12_fillsSpots_42 : decode cX12_fillsSpots 42 = .ok (.iconst 4, 1) := by decide +kernel
theorem dX12_fillsSpots_43 : decode cX12_fillsSpots 43 = .ok (.iaload, 1) := by decide +kernel
theorem dX12_fillsSpots_44 : decode cX12_fillsSpots 44 = .ok (.iload_n 3, 1) := by decide +kernel
theorem dX12_fillsSpots_45 : decode cX12_fillsSpots 45 = .ok (.iadd, 1) := by decide +kernel
theorem dX12_fillsSpots_46 : decode cX12_fillsSpots 46 = .ok (.invokevirtual 354, 3) := by decide +kernel
theorem dX12_fillsSpots_49 : decode cX12_fillsSpots 49 = .ok (.istore 4, 2) := by decide +kernel
theorem dX12_fillsSpots_51 : decode cX12_fillsSpots 51 = .ok (.aload_n 0, 1) := by decide +kernel
theorem dX12_fillsSpots_52 : decode cX12_fillsSpots 52 = .ok (.getfield 52, 3) := by decide +kernel
theorem dX12_fillsSpots_55 : decode cX12_fillsSpots 55 = .ok (.iload_n 1, 1) := by decide +kernel
theorem dX12_fillsSpots_56 : decode cX12_fillsSpots 56 = .ok (.iload_n 2, 1) := by decide +kernel
theorem dX12_fillsSpots_57 : decode cX12_fillsSpots 57 = .ok (.iload_n 3, 1) := by decide +kernel
theorem dX12_fillsSpots_58 : decode cX12_fillsSpots 58 = .ok (.invokestatic 401, 3) := by decide +kernel
theorem dX12_fillsSpots_61 : decode cX12_fillsSpots 61 = .ok (.iload 4, 2) := by decide +kernel
theorem dX12_fillsSpots_63 : decode cX12_fillsSpots 63 = .ok (.bastore, 1) := by decide +kernel
theorem dX12_fillsSpots_64 : decode cX12_fillsSpots 64 = .ok (.aload_n 0, 1) := by decide +kernel
theorem dX12_fillsSpots_65 : decode cX12_fillsSpots 65 = .ok (.getfield 56, 3) := by decide +kernel
theorem dX12_fillsSpots_68 : decode cX12_fillsSpots 68 = .ok (.iload_n 1, 1) := by decide +kernel
theorem dX12_fillsSpots_69 : decode cX12_fillsSpots 69 = .ok (.iload_n 2, 1) := by decide +kernel
theorem dX12_fillsSpots_70 : decode cX12_fillsSpots 70 = .ok (.iload_n 3, 1) := by decide +kernel
theorem dX12_fillsSpots_71 : decode cX12_fillsSpots 71 = .ok (.invokestatic 401, 3) := by decide +kernel
theorem dX12_fillsSpots_74 : decode cX12_fillsSpots 74 = .ok (.iload 4, 2) := by decide +kernel
theorem dX12_fillsSpots_76 : decode cX12_fillsSpots 76 = .ok (.ifCond .eq 25, 3) := by decide +kernel
theorem dX12_fillsSpots_79 : decode cX12_fillsSpots 79 = .ok (.aload_n 0, 1) := by decide +kernel
theorem dX12_fillsSpots_80 : decode cX12_fillsSpots 80 = .ok (.aload_n 0, 1) := by decide +kernel
theorem dX12_fillsSpots_81 : decode cX12_fillsSpots 81 = .ok (.getfield 49, 3) := by decide +kernel
theorem dX12_fillsSpots_84 : decode cX12_fillsSpots 84 = .ok (.iload_n 1, 1) := by decide +kernel
theorem dX12_fillsSpots_85 : decode cX12_fillsSpots 85 = .ok (.iaload, 1) := by decide +kernel
theorem dX12_fillsSpots_86 : decode cX12_fillsSpots 86 = .ok (.iload_n 2, 1) := by decide +kernel
theorem dX12_fillsSpots_87 : decode cX12_fillsSpots 87 = .ok (.aload_n 0, 1) := by decide +kernel
theorem dX12_fillsSpots_88 : decode cX12_fillsSpots 88 = .ok (.getfield 39, 3) := by decide +kernel
theorem dX12_fillsSpots_91 : decode cX12_fillsSpots 91 = .ok (.iconst 4, 1) := by decide +kernel
theorem dX12_fillsSpots_92 : decode cX12_fillsSpots 92 = .ok (.iaload, 1) := by decide +kernel
theorem dX12_fillsSpots_93 : decode cX12_fillsSpots 93 = .ok (.iload_n 3, 1) := by decide +kernel
theorem dX12_fillsSpots_94 : decode cX12_fillsSpots 94 = .ok (.iadd, 1) := by decide +kernel
theorem dX12_fillsSpots_95 : decode cX12_fillsSpots 95 = .ok (.invokevirtual 373, 3) := by decide +kernel
theorem dX12_fillsSpots_98 : decode cX12_fillsSpots 98 = .ok (.goto 4, 3) := by decide +kernel
theorem dX12_fillsSpots_101 : decode cX12_fillsSpots 101 = .ok (.iconst 0, 1) := by decide +kernel
theorem dX12_fillsSpots_102 : decode cX12_fillsSpots 102 = .ok (.iastore, 1) := by decide +kernel
theorem dX12_fillsSpots_103 : decode cX12_fillsSpots 103 = .ok (.iinc 3 1, 3) := by decide +kernel
theorem dX12_fillsSpots_106 : decode cX12_fillsSpots 106 = .ok (.goto (-82), 3) := by decide +kernel
theorem dX12_fillsSpots_109 : decode cX12_fillsSpots 109 = .ok (.iinc 2 1, 3) := by decide +kernel
theorem dX12_fillsSpots_112 : decode cX12_fillsSpots 112 = .ok (.goto (-100), 3) := by decide +kernel
theorem dX12_fillsSpots_115 : decode cX12_fillsSpots 115 = .ok (.iinc 1 1, 3) := by decide +kernel
theorem dX12_fillsSpots_118 : decode cX12_fillsSpots 118 = .ok (.goto (-116), 3) := by decide +kernel
theorem dX12_fillsSpots_121 : decode cX12_fillsSpots 121 = .ok (.return_, 1) := by decide +kernel
theorem dX12_lengthOf_0 : decode cX12_lengthOf 0 = .ok (.aload_n 0, 1) := by decide +kernel
theorem dX12_lengthOf_1 : decode cX12_lengthOf 1 = .ok (.aload_n 0, 1) := by decide +kernel
theorem dX12_lengthOf_2 : decode cX12_lengthOf 2 = .ok (.getfield 49, 3) := by decide +kernel
theorem dX12_lengthOf_5 : decode cX12_lengthOf 5 = .ok (.iload_n 1, 1) := by decide +kernel
theorem dX12_lengthOf_6 : decode cX12_lengthOf 6 = .ok (.iaload, 1) := by decide +kernel
theorem dX12_lengthOf_7 : decode cX12_lengthOf 7 = .ok (.iconst 2, 1) := by decide +kernel
theorem dX12_lengthOf_8 : decode cX12_lengthOf 8 = .ok (.invokevirtual 331, 3) := by decide +kernel
theorem dX12_lengthOf_11 : decode cX12_lengthOf 11 = .ok (.ireturn, 1) := by decide +kernel
theorem dX12_isBusy_0 : decode cX12_isBusy 0 = .ok (.aload_n 0, 1) := by decide +kernel
theorem dX12_isBusy_1 : decode cX12_isBusy 1 = .ok (.iload_n 2, 1) := by decide +kernel
theorem dX12_isBusy_2 : decode cX12_isBusy 2 = .ok (.invokevirtual 344, 3) := by decide +kernel
theorem dX12_isBusy_5 : decode cX12_isBusy 5 = .ok (.istore 5, 2) := by decide +kernel
theorem dX12_isBusy_7 : decode cX12_isBusy 7 = .ok (.iload 5, 2) := by decide +kernel
theorem dX12_isBusy_9 : decode cX12_isBusy 9 = .ok (.ifCond .lt 16, 3) := by decide +kernel
theorem dX12_isBusy_12 : decode cX12_isBusy 12 = .ok (.iload_n 3, 1) := by decide +kernel
theorem dX12_isBusy_13 : decode cX12_isBusy 13 = .ok (.aload_n 0, 1) := by decide +kernel
theorem dX12_isBusy_14 : decode cX12_isBusy 14 = .ok (.iload 5, 2) := by decide +kernel
theorem dX12_isBusy_16 : decode cX12_isBusy 16 = .ok (.iconst 5, 1) := by decide +kernel
theorem dX12_isBusy_17 : decode cX12_isBusy 17 = .ok (.invokevirtual 331, 3) := by decide +kernel
theorem dX12_isBusy_20 : decode cX12_isBusy 20 = .ok (.if_icmp .ge 5, 3) := by decide +kernel
theorem dX12_isBusy_23 : decode cX12_isBusy 23 = .ok (.iconst 1, 1) := by decide +kernel
theorem dX12_isBusy_24 : decode cX12_isBusy 24 = .ok (.ireturn, 1) := by decide +kernel
theorem dX12_isBusy_25 : decode cX12_isBusy 25 = .ok (.iconst 0, 1) := by decide +kernel
theorem dX12_isBusy_26 : decode cX12_isBusy 26 = .ok (.istore 6, 2) := by decide +kernel
theorem dX12_isBusy_28 : decode cX12_isBusy 28 = .ok (.iload 6, 2) := by decide +kernel
theorem dX12_isBusy_30 : decode cX12_isBusy 30 = .ok (.iload_n 1, 1) := by decide +kernel
theorem dX12_isBusy_31 : decode cX12_isBusy 31 = .ok (.if_icmp .ge 59, 3) := by decide +kernel
theorem dX12_isBusy_34 : decode cX12_isBusy 34 = .ok (.aload_n 0, 1) := by decide +kernel
theorem dX12_isBusy_35 : decode cX12_isBusy 35 = .ok (.getfield 62, 3) := by decide +kernel
theorem dX12_isBusy_38 : decode cX12_isBusy 38 = .ok (.iload 6, 2) := by decide +kernel
theorem dX12_isBusy_40 : decode cX12_isBusy 40 = .ok (.iaload, 1) := by decide +kernel
theorem dX12_isBusy_41 : decode cX12_isBusy 41 = .ok (.iload_n 2, 1) := by decide +kernel
theorem dX12_isBusy_42 : decode cX12_isBusy 42 = .ok (.if_icmp .ne 42, 3) := by decide +kernel
theorem dX12_isBusy_45 : decode cX12_isBusy 45 = .ok (.iload_n 3, 1) := by decide +kernel
theorem dX12_isBusy_46 : decode cX12_isBusy 46 = .ok (.aload_n 0, 1) := by decide +kernel
theorem dX12_isBusy_47 : decode cX12_isBusy 47 = .ok (.getfield 65, 3) := by decide +kernel
theorem dX12_isBusy_50 : decode cX12_isBusy 50 = .ok (.iload 6, 2) := by decide +kernel
theorem dX12_isBusy_52 : decode cX12_isBusy 52 = .ok (.iaload, 1) := by decide +kernel
theorem dX12_isBusy_53 : decode cX12_isBusy 53 = .ok (.aload_n 0, 1) := by decide +kernel
theorem dX12_isBusy_54 : decode cX12_isBusy 54 = .ok (.aload_n 0, 1) := by decide +kernel
theorem dX12_isBusy_55 : decode cX12_isBusy 55 = .ok (.getfield 59, 3) := by decide +kernel
theorem dX12_isBusy_58 : decode cX12_isBusy 58 = .ok (.iload 6, 2) := by decide +kernel
theorem dX12_isBusy_60 : decode cX12_isBusy 60 = .ok (.iaload, 1) := by decide +kernel
theorem dX12_isBusy_61 : decode cX12_isBusy 61 = .ok (.invokevirtual 404, 3) := by decide +kernel
theorem dX12_isBusy_64 : decode cX12_isBusy 64 = .ok (.iadd, 1) := by decide +kernel
theorem dX12_isBusy_65 : decode cX12_isBusy 65 = .ok (.if_icmp .ge 19, 3) := by decide +kernel
theorem dX12_isBusy_68 : decode cX12_isBusy 68 = .ok (.aload_n 0, 1) := by decide +kernel
theorem dX12_isBusy_69 : decode cX12_isBusy 69 = .ok (.getfield 65, 3) := by decide +kernel
theorem dX12_isBusy_72 : decode cX12_isBusy 72 = .ok (.iload 6, 2) := by decide +kernel
theorem dX12_isBusy_74 : decode cX12_isBusy 74 = .ok (.iaload, 1) := by decide +kernel
theorem dX12_isBusy_75 : decode cX12_isBusy 75 = .ok (.iload_n 3, 1) := by decide +kernel
theorem dX12_isBusy_76 : decode cX12_isBusy 76 = .ok (.iload 4, 2) := by decide +kernel
theorem dX12_isBusy_78 : decode cX12_isBusy 78 = .ok (.iadd, 1) := by decide +kernel
theorem dX12_isBusy_79 : decode cX12_isBusy 79 = .ok (.if_icmp .ge 5, 3) := by decide +kernel
theorem dX12_isBusy_82 : decode cX12_isBusy 82 = .ok (.iconst 1, 1) := by decide +kernel
theorem dX12_isBusy_83 : decode cX12_isBusy 83 = .ok (.ireturn, 1) := by decide +kernel
theorem dX12_isBusy_84 : decode cX12_isBusy 84 = .ok (.iinc 6 1, 3) := by decide +kernel
theorem dX12_isBusy_87 : decode cX12_isBusy 87 = .ok (.goto (-59), 3) := by decide +kernel
theorem dX12_isBusy_90 : decode cX12_isBusy 90 = .ok (.iconst 0, 1) := by decide +kernel
theorem dX12_isBusy_91 : decode cX12_isBusy 91 = .ok (.ireturn, 1) := by decide +kernel
theorem dX12_firstDay_0 : decode cX12_firstDay 0 = .ok (.iconst 0, 1) := by decide +kernel
theorem dX12_firstDay_1 : decode cX12_firstDay 1 = .ok (.istore 4, 2) := by decide +kernel
theorem dX12_firstDay_3 : decode cX12_firstDay 3 = .ok (.iload 4, 2) := by decide +kernel
theorem dX12_firstDay_5 : decode cX12_firstDay 5 = .ok (.bipush 100, 2) := by decide +kernel
theorem dX12_firstDay_7 : decode cX12_firstDay 7 = .ok (.if_icmp .ge 43, 3) := by decide +kernel
theorem dX12_firstDay_10 : decode cX12_firstDay 10 = .ok (.aload_n 0, 1) := by decide +kernel
theorem dX12_firstDay_11 : decode cX12_firstDay 11 = .ok (.getfield 52, 3) := by decide +kernel
theorem dX12_firstDay_14 : decode cX12_firstDay 14 = .ok (.iload_n 2, 1) := by decide +kernel
theorem dX12_firstDay_15 : decode cX12_firstDay 15 = .ok (.iload_n 3, 1) := by decide +kernel
theorem dX12_firstDay_16 : decode cX12_firstDay 16 = .ok (.iload 4, 2) := by decide +kernel
theorem dX12_firstDay_18 : decode cX12_firstDay 18 = .ok (.invokestatic 401, 3) := by decide +kernel
theorem dX12_firstDay_21 : decode cX12_firstDay 21 = .ok (.baload, 1) := by decide +kernel
theorem dX12_firstDay_22 : decode cX12_firstDay 22 = .ok (.ifCond .eq 22, 3) := by decide +kernel
theorem dX12_firstDay_25 : decode cX12_firstDay 25 = .ok (.aload_n 0, 1) := by decide +kernel
theorem dX12_firstDay_26 : decode cX12_firstDay 26 = .ok (.iload_n 1, 1) := by decide +kernel
theorem dX12_firstDay_27 : decode cX12_firstDay 27 = .ok (.iload_n 3, 1) := by decide +kernel
theorem dX12_firstDay_28 : decode cX12_firstDay 28 = .ok (.iload 4, 2) := by decide +kernel
theorem dX12_firstDay_30 : decode cX12_firstDay 30 = .ok (.aload_n 0, 1) := by decide +kernel
theorem dX12_firstDay_31 : decode cX12_firstDay 31 = .ok (.iload_n 2, 1) := by decide +kernel
theorem dX12_firstDay_32 : decode cX12_firstDay 32 = .ok (.invokevirtual 404, 3) := by decide +kernel
theorem dX12_firstDay_35 : decode cX12_firstDay 35 = .ok (.invokevirtual 407, 3) := by decide +kernel
theorem dX12_firstDay_38 : decode cX12_firstDay 38 = .ok (.ifCond .ne 6, 3) := by decide +kernel
theorem dX12_firstDay_41 : decode cX12_firstDay 41 = .ok (.iload 4, 2) := by decide +kernel
theorem dX12_firstDay_43 : decode cX12_firstDay 43 = .ok (.ireturn, 1) := by decide +kernel
theorem dX12_firstDay_44 : decode cX12_firstDay 44 = .ok (.iinc 4 1, 3) := by decide +kernel
theorem dX12_firstDay_47 : decode cX12_firstDay 47 = .ok (.goto (-44), 3) := by decide +kernel
theorem dX12_firstDay_50 : decode cX12_firstDay 50 = .ok (.iconst (-1), 1) := by decide +kernel
theorem dX12_firstDay_51 : decode cX12_firstDay 51 = .ok (.ireturn, 1) := by decide +kernel
theorem dX12_isAhead_0 : decode cX12_isAhead 0 = .ok (.iconst 0, 1) := by decide +kernel
theorem dX12_isAhead_1 : decode cX12_isAhead 1 = .ok (.istore_n 1, 1) := by decide +kernel
theorem dX12_isAhead_2 : decode cX12_isAhead 2 = .ok (.iload_n 1, 1) := by decide +kernel
theorem dX12_isAhead_3 : decode cX12_isAhead 3 = .ok (.aload_n 0, 1) := by decide +kernel
theorem dX12_isAhead_4 : decode cX12_isAhead 4 = .ok (.getfield 398, 3) := by decide +kernel
theorem dX12_isAhead_7 : decode cX12_isAhead 7 = .ok (.if_icmp .ge 45, 3) := by decide +kernel
theorem dX12_isAhead_10 : decode cX12_isAhead 10 = .ok (.aload_n 0, 1) := by decide +kernel
theorem dX12_isAhead_11 : decode cX12_isAhead 11 = .ok (.getfield 59, 3) := by decide +kernel
theorem dX12_isAhead_14 : decode cX12_isAhead 14 = .ok (.iload_n 1, 1) := by decide +kernel
theorem dX12_isAhead_15 : decode cX12_isAhead 15 = .ok (.iaload, 1) := by decide +kernel
theorem dX12_isAhead_16 : decode cX12_isAhead 16 = .ok (.aload_n 0, 1) := by decide +kernel
theorem dX12_isAhead_17 : decode cX12_isAhead 17 = .ok (.getfield 68, 3) := by decide +kernel
theorem dX12_isAhead_20 : decode cX12_isAhead 20 = .ok (.iload_n 1, 1) := by decide +kernel
theorem dX12_isAhead_21 : decode cX12_isAhead 21 = .ok (.iaload, 1) := by decide +kernel
theorem dX12_isAhead_22 : decode cX12_isAhead 22 = .ok (.if_icmp .eq 24, 3) := by decide +kernel
theorem dX12_isAhead_25 : decode cX12_isAhead 25 = .ok (.aload_n 0, 1) := by decide +kernel
theorem dX12_isAhead_26 : decode cX12_isAhead 26 = .ok (.getfield 59, 3) := by decide +kernel
theorem dX12_isAhead_29 : decode cX12_isAhead 29 = .ok (.iload_n 1, 1) := by decide +kernel
theorem dX12_isAhead_30 : decode cX12_isAhead 30 = .ok (.iaload, 1) := by decide +kernel
theorem dX12_isAhead_31 : decode cX12_isAhead 31 = .ok (.aload_n 0, 1) := by decide +kernel
theorem dX12_isAhead_32 : decode cX12_isAhead 32 = .ok (.getfield 68, 3) := by decide +kernel
theorem dX12_isAhead_35 : decode cX12_isAhead 35 = .ok (.iload_n 1, 1) := by decide +kernel
theorem dX12_isAhead_36 : decode cX12_isAhead 36 = .ok (.iaload, 1) := by decide +kernel
theorem dX12_isAhead_37 : decode cX12_isAhead 37 = .ok (.if_icmp .ge 7, 3) := by decide +kernel
theorem dX12_isAhead_40 : decode cX12_isAhead 40 = .ok (.iconst 1, 1) := by decide +kernel
theorem dX12_isAhead_41 : decode cX12_isAhead 41 = .ok (.goto 4, 3) := by decide +kernel
theorem dX12_isAhead_44 : decode cX12_isAhead 44 = .ok (.iconst 0, 1) := by decide +kernel
theorem dX12_isAhead_45 : decode cX12_isAhead 45 = .ok (.ireturn, 1) := by decide +kernel
theorem dX12_isAhead_46 : decode cX12_isAhead 46 = .ok (.iinc 1 1, 3) := by decide +kernel
theorem dX12_isAhead_49 : decode cX12_isAhead 49 = .ok (.goto (-47), 3) := by decide +kernel
theorem dX12_isAhead_52 : decode cX12_isAhead 52 = .ok (.iconst 0, 1) := by decide +kernel
theorem dX12_isAhead_53 : decode cX12_isAhead 53 = .ok (.istore_n 1, 1) := by decide +kernel
theorem dX12_isAhead_54 : decode cX12_isAhead 54 = .ok (.iload_n 1, 1) := by decide +kernel
theorem dX12_isAhead_55 : decode cX12_isAhead 55 = .ok (.aload_n 0, 1) := by decide +kernel
theorem dX12_isAhead_56 : decode cX12_isAhead 56 = .ok (.getfield 398, 3) := by decide +kernel
theorem dX12_isAhead_59 : decode cX12_isAhead 59 = .ok (.if_icmp .ge 45, 3) := by decide +kernel
theorem dX12_isAhead_62 : decode cX12_isAhead 62 = .ok (.aload_n 0, 1) := by decide +kernel
theorem dX12_isAhead_63 : decode cX12_isAhead 63 = .ok (.getfield 62, 3) := by decide +kernel
theorem dX12_isAhead_66 : decode cX12_isAhead 66 = .ok (.iload_n 1, 1) := by decide +kernel
theorem dX12_isAhead_67 : decode cX12_isAhead 67 = .ok (.iaload, 1) := by decide +kernel
theorem dX12_isAhead_68 : decode cX12_isAhead 68 = .ok (.aload_n 0, 1) := by decide +kernel
theorem dX12_isAhead_69 : decode cX12_isAhead 69 = .ok (.getfield 71, 3) := by decide +kernel
theorem dX12_isAhead_72 : decode cX12_isAhead 72 = .ok (.iload_n 1, 1) := by decide +kernel
theorem dX12_isAhead_73 : decode cX12_isAhead 73 = .ok (.iaload, 1) := by decide +kernel
theorem dX12_isAhead_74 : decode cX12_isAhead 74 = .ok (.if_icmp .eq 24, 3) := by decide +kernel
theorem dX12_isAhead_77 : decode cX12_isAhead 77 = .ok (.aload_n 0, 1) := by decide +kernel
theorem dX12_isAhead_78 : decode cX12_isAhead 78 = .ok (.getfield 62, 3) := by decide +kernel
theorem dX12_isAhead_81 : decode cX12_isAhead 81 = .ok (.iload_n 1, 1) := by decide +kernel
theorem dX12_isAhead_82 : decode cX12_isAhead 82 = .ok (.iaload, 1) := by decide +kernel
theorem dX12_isAhead_83 : decode cX12_isAhead 83 = .ok (.aload_n 0, 1) := by decide +kernel
theorem dX12_isAhead_84 : decode cX12_isAhead 84 = .ok (.getfield 71, 3) := by decide +kernel
theorem dX12_isAhead_87 : decode cX12_isAhead 87 = .ok (.iload_n 1, 1) := by decide +kernel
theorem dX12_isAhead_88 : decode cX12_isAhead 88 = .ok (.iaload, 1) := by decide +kernel
theorem dX12_isAhead_89 : decode cX12_isAhead 89 = .ok (.if_icmp .ge 7, 3) := by decide +kernel
theorem dX12_isAhead_92 : decode cX12_isAhead 92 = .ok (.iconst 1, 1) := by decide +kernel
theorem dX12_isAhead_93 : decode cX12_isAhead 93 = .ok (.goto 4, 3) := by decide +kernel
theorem dX12_isAhead_96 : decode cX12_isAhead 96 = .ok (.iconst 0, 1) := by decide +kernel
theorem dX12_isAhead_97 : decode cX12_isAhead 97 = .ok (.ireturn, 1) := by decide +kernel
theorem dX12_isAhead_98 : decode cX12_isAhead 98 = .ok (.iinc 1 1, 3) := by decide +kernel
theorem dX12_isAhead_101 : decode cX12_isAhead 101 = .ok (.goto (-47), 3) := by decide +kernel
theorem dX12_isAhead_104 : decode cX12_isAhead 104 = .ok (.iconst 0, 1) := by decide +kernel
theorem dX12_isAhead_105 : decode cX12_isAhead 105 = .ok (.ireturn, 1) := by decide +kernel
theorem dX12_countsRow_0 : decode cX12_countsRow 0 = .ok (.iconst 0, 1) := by decide +kernel
theorem dX12_countsRow_1 : decode cX12_countsRow 1 = .ok (.istore_n 1, 1) := by decide +kernel
theorem dX12_countsRow_2 : decode cX12_countsRow 2 = .ok (.iconst (-1), 1) := by decide +kernel
theorem dX12_countsRow_3 : decode cX12_countsRow 3 = .ok (.istore_n 2, 1) := by decide +kernel
theorem dX12_countsRow_4 : decode cX12_countsRow 4 = .ok (.iconst 0, 1) := by decide +kernel
theorem dX12_countsRow_5 : decode cX12_countsRow 5 = .ok (.istore_n 3, 1) := by decide +kernel
theorem dX12_countsRow_6 : decode cX12_countsRow 6 = .ok (.iload_n 3, 1) := by decide +kernel
theorem dX12_countsRow_7 : decode cX12_countsRow 7 = .ok (.aload_n 0, 1) := by decide +kernel
theorem dX12_countsRow_8 : decode cX12_countsRow 8 = .ok (.getfield 398, 3) := by decide +kernel
theorem dX12_countsRow_11 : decode cX12_countsRow 11 = .ok (.if_icmp .ge 72, 3) := by decide +kernel
theorem dX12_countsRow_14 : decode cX12_countsRow 14 = .ok (.aload_n 0, 1) := by decide +kernel
theorem dX12_countsRow_15 : decode cX12_countsRow 15 = .ok (.getfield 65, 3) := by decide +kernel
theorem dX12_countsRow_18 : decode cX12_countsRow 18 = .ok (.iload_n 3, 1) := by decide +kernel
theorem dX12_countsRow_19 : decode cX12_countsRow 19 = .ok (.iaload, 1) := by decide +kernel
theorem dX12_countsRow_20 : decode cX12_countsRow 20 = .ok (.aload_n 0, 1) := by decide +kernel
theorem dX12_countsRow_21 : decode cX12_countsRow 21 = .ok (.aload_n 0, 1) := by decide +kernel
theorem dX12_countsRow_22 : decode cX12_countsRow 22 = .ok (.getfield 59, 3) := by decide +kernel
theorem dX12_countsRow_25 : decode cX12_countsRow 25 = .ok (.iload_n 3, 1) := by decide +kernel
theorem dX12_countsRow_26 : decode cX12_countsRow 26 = .ok (.iaload, 1) := by decide +kernel
theorem dX12_countsRow_27 : decode cX12_countsRow 27 = .ok (.invokevirtual 404, 3) := by decide +kernel
theorem dX12_countsRow_30 : decode cX12_countsRow 30 = .ok (.iadd, 1) := by decide +kernel
theorem dX12_countsRow_31 : decode cX12_countsRow 31 = .ok (.iconst 1, 1) := by decide +kernel
theorem dX12_countsRow_32 : decode cX12_countsRow 32 = .ok (.isub, 1) := by decide +kernel
theorem dX12_countsRow_33 : decode cX12_countsRow 33 = .ok (.istore 4, 2) := by decide +kernel
theorem dX12_countsRow_35 : decode cX12_countsRow 35 = .ok (.iload_n 1, 1) := by decide +kernel
theorem dX12_countsRow_36 : decode cX12_countsRow 36 = .ok (.aload_n 0, 1) := by decide +kernel
theorem dX12_countsRow_37 : decode cX12_countsRow 37 = .ok (.getfield 56, 3) := by decide +kernel
theorem dX12_countsRow_40 : decode cX12_countsRow 40 = .ok (.aload_n 0, 1) := by decide +kernel
theorem dX12_countsRow_41 : decode cX12_countsRow 41 = .ok (.getfield 59, 3) := by decide +kernel
theorem dX12_countsRow_44 : decode cX12_countsRow 44 = .ok (.iload_n 3, 1) := by decide +kernel
theorem dX12_countsRow_45 : decode cX12_countsRow 45 = .ok (.iaload, 1) := by decide +kernel
theorem dX12_countsRow_46 : decode cX12_countsRow 46 = .ok (.aload_n 0, 1) := by decide +kernel
theorem dX12_countsRow_47 : decode cX12_countsRow 47 = .ok (.getfield 62, 3) := by decide +kernel
theorem dX12_countsRow_50 : decode cX12_countsRow 50 = .ok (.iload_n 3, 1) := by decide +kernel
theorem dX12_countsRow_51 : decode cX12_countsRow 51 = .ok (.iaload, 1) := by decide +kernel
theorem dX12_countsRow_52 : decode cX12_countsRow 52 = .ok (.aload_n 0, 1) := by decide +kernel
theorem dX12_countsRow_53 : decode cX12_countsRow 53 = .ok (.getfield 65, 3) := by decide +kernel
theorem dX12_countsRow_56 : decode cX12_countsRow 56 = .ok (.iload_n 3, 1) := by decide +kernel
theorem dX12_countsRow_57 : decode cX12_countsRow 57 = .ok (.iaload, 1) := by decide +kernel
theorem dX12_countsRow_58 : decode cX12_countsRow 58 = .ok (.invokestatic 401, 3) := by decide +kernel
theorem dX12_countsRow_61 : decode cX12_countsRow 61 = .ok (.iaload, 1) := by decide +kernel
theorem dX12_countsRow_62 : decode cX12_countsRow 62 = .ok (.iadd, 1) := by decide +kernel
theorem dX12_countsRow_63 : decode cX12_countsRow 63 = .ok (.istore_n 1, 1) := by decide +kernel
theorem dX12_countsRow_64 : decode cX12_countsRow 64 = .ok (.iload 4, 2) := by decide +kernel
theorem dX12_countsRow_66 : decode cX12_countsRow 66 = .ok (.iload_n 2, 1) := by decide +kernel
theorem dX12_countsRow_67 : decode cX12_countsRow 67 = .ok (.if_icmp .le 8, 3) := by decide +kernel
theorem dX12_countsRow_70 : decode cX12_countsRow 70 = .ok (.iload 4, 2) := by decide +kernel
theorem dX12_countsRow_72 : decode cX12_countsRow 72 = .ok (.goto 4, 3) := by decide +kernel
theorem dX12_countsRow_75 : decode cX12_countsRow 75 = .ok (.iload_n 2, 1) := by decide +kernel
theorem dX12_countsRow_76 : decode cX12_countsRow 76 = .ok (.istore_n 2, 1) := by decide +kernel
theorem dX12_countsRow_77 : decode cX12_countsRow 77 = .ok (.iinc 3 1, 3) := by decide +kernel
theorem dX12_countsRow_80 : decode cX12_countsRow 80 = .ok (.goto (-74), 3) := by decide +kernel
theorem dX12_countsRow_83 : decode cX12_countsRow 83 = .ok (.iload_n 1, 1) := by decide +kernel
theorem dX12_countsRow_84 : decode cX12_countsRow 84 = .ok (.aload_n 0, 1) := by decide +kernel
theorem dX12_countsRow_85 : decode cX12_countsRow 85 = .ok (.getfield 410, 3) := by decide +kernel
theorem dX12_countsRow_88 : decode cX12_countsRow 88 = .ok (.if_icmp .lt 19, 3) := by decide +kernel
theorem dX12_countsRow_91 : decode cX12_countsRow 91 = .ok (.iload_n 1, 1) := by decide +kernel
theorem dX12_countsRow_92 : decode cX12_countsRow 92 = .ok (.aload_n 0, 1) := by decide +kernel
theorem dX12_countsRow_93 : decode cX12_countsRow 93 = .ok (.getfield 410, 3) := by decide +kernel
theorem dX12_countsRow_96 : decode cX12_countsRow 96 = .ok (.if_icmp .ne 12, 3) := by decide +kernel
theorem dX12_countsRow_99 : decode cX12_countsRow 99 = .ok (.iload_n 2, 1) := by decide +kernel
theorem dX12_countsRow_100 : decode cX12_countsRow 100 = .ok (.aload_n 0, 1) := by decide +kernel
theorem dX12_countsRow_101 : decode cX12_countsRow 101 = .ok (.getfield 413, 3) := by decide +kernel
theorem dX12_countsRow_104 : decode cX12_countsRow 104 = .ok (.if_icmp .le 4, 3) := by decide +kernel
theorem dX12_countsRow_107 : decode cX12_countsRow 107 = .ok (.return_, 1) := by decide +kernel
theorem dX12_countsRow_108 : decode cX12_countsRow 108 = .ok (.iload_n 1, 1) := by decide +kernel
theorem dX12_countsRow_109 : decode cX12_countsRow 109 = .ok (.aload_n 0, 1) := by decide +kernel
theorem dX12_countsRow_110 : decode cX12_countsRow 110 = .ok (.getfield 410, 3) := by decide +kernel
theorem dX12_countsRow_113 : decode cX12_countsRow 113 = .ok (.if_icmp .ne 19, 3) := by decide +kernel
theorem dX12_countsRow_116 : decode cX12_countsRow 116 = .ok (.iload_n 2, 1) := by decide +kernel
theorem dX12_countsRow_117 : decode cX12_countsRow 117 = .ok (.aload_n 0, 1) := by decide +kernel
theorem dX12_countsRow_118 : decode cX12_countsRow 118 = .ok (.getfield 413, 3) := by decide +kernel
theorem dX12_countsRow_121 : decode cX12_countsRow 121 = .ok (.if_icmp .ne 11, 3) := by decide +kernel
theorem dX12_countsRow_124 : decode cX12_countsRow 124 = .ok (.aload_n 0, 1) := by decide +kernel
theorem dX12_countsRow_125 : decode cX12_countsRow 125 = .ok (.invokevirtual 416, 3) := by decide +kernel
theorem dX12_countsRow_128 : decode cX12_countsRow 128 = .ok (.ifCond .ne 4, 3) := by decide +kernel
theorem dX12_countsRow_131 : decode cX12_countsRow 131 = .ok (.return_, 1) := by decide +kernel
theorem dX12_countsRow_132 : decode cX12_countsRow 132 = .ok (.aload_n 0, 1) := by decide +kernel
theorem dX12_countsRow_133 : decode cX12_countsRow 133 = .ok (.iload_n 1, 1) := by decide +kernel
theorem dX12_countsRow_134 : decode cX12_countsRow 134 = .ok (.putfield 410, 3) := by decide +kernel
theorem dX12_countsRow_137 : decode cX12_countsRow 137 = .ok (.aload_n 0, 1) := by decide +kernel
theorem dX12_countsRow_138 : decode cX12_countsRow 138 = .ok (.iload_n 2, 1) := by decide +kernel
theorem dX12_countsRow_139 : decode cX12_countsRow 139 = .ok (.putfield 413, 3) := by decide +kernel
theorem dX12_countsRow_142 : decode cX12_countsRow 142 = .ok (.iconst 0, 1) := by decide +kernel
theorem dX12_countsRow_143 : decode cX12_countsRow 143 = .ok (.istore_n 3, 1) := by decide +kernel
theorem dX12_countsRow_144 : decode cX12_countsRow 144 = .ok (.iload_n 3, 1) := by decide +kernel
theorem dX12_countsRow_145 : decode cX12_countsRow 145 = .ok (.aload_n 0, 1) := by decide +kernel
theorem dX12_countsRow_146 : decode cX12_countsRow 146 = .ok (.getfield 398, 3) := by decide +kernel
theorem dX12_countsRow_149 : decode cX12_countsRow 149 = .ok (.if_icmp .ge 45, 3) := by decide +kernel
theorem dX12_countsRow_152 : decode cX12_countsRow 152 = .ok (.aload_n 0, 1) := by decide +kernel
theorem dX12_countsRow_153 : decode cX12_countsRow 153 = .ok (.getfield 68, 3) := by decide +kernel
theorem dX12_countsRow_156 : decode cX12_countsRow 156 = .ok (.iload_n 3, 1) := by decide +kernel
theorem dX12_countsRow_157 : decode cX12_countsRow 157 = .ok (.aload_n 0, 1) := by decide +kernel
theorem dX12_countsRow_158 : decode cX12_countsRow 158 = .ok (.getfield 59, 3) := by decide +kernel
theorem dX12_countsRow_161 : decode cX12_countsRow 161 = .ok (.iload_n 3, 1) := by decide +kernel
theorem dX12_countsRow_162 : decode cX12_countsRow 162 = .ok (.iaload, 1) := by decide +kernel
theorem dX12_countsRow_163 : decode cX12_countsRow 163 = .ok (.iastore, 1) := by decide +kernel
theorem dX12_countsRow_164 : decode cX12_countsRow 164 = .ok (.aload_n 0, 1) := by decide +kernel
theorem dX12_countsRow_165 : decode cX12_countsRow 165 = .ok (.getfield 71, 3) := by decide +kernel
theorem dX12_countsRow_168 : decode cX12_countsRow 168 = .ok (.iload_n 3, 1) := by decide +kernel
theorem dX12_countsRow_169 : decode cX12_countsRow 169 = .ok (.aload_n 0, 1) := by decide +kernel
theorem dX12_countsRow_170 : decode cX12_countsRow 170 = .ok (.getfield 62, 3) := by decide +kernel
theorem dX12_countsRow_173 : decode cX12_countsRow 173 = .ok (.iload_n 3, 1) := by decide +kernel
theorem dX12_countsRow_174 : decode cX12_countsRow 174 = .ok (.iaload, 1) := by decide +kernel
theorem dX12_countsRow_175 : decode cX12_countsRow 175 = .ok (.iastore, 1) := by decide +kernel
theorem dX12_countsRow_176 : decode cX12_countsRow 176 = .ok (.aload_n 0, 1) := by decide +kernel
theorem dX12_countsRow_177 : decode cX12_countsRow 177 = .ok (.getfield 74, 3) := by decide +kernel
theorem dX12_countsRow_180 : decode cX12_countsRow 180 = .ok (.iload_n 3, 1) := by decide +kernel
theorem dX12_countsRow_181 : decode cX12_countsRow 181 = .ok (.aload_n 0, 1) := by decide +kernel
theorem dX12_countsRow_182 : decode cX12_countsRow 182 = .ok (.getfield 65, 3) := by decide +kernel
theorem dX12_countsRow_185 : decode cX12_countsRow 185 = .ok (.iload_n 3, 1) := by decide +kernel
theorem dX12_countsRow_186 : decode cX12_countsRow 186 = .ok (.iaload, 1) := by decide +kernel
theorem dX12_countsRow_187 : decode cX12_countsRow 187 = .ok (.iastore, 1) := by decide +kernel
theorem dX12_countsRow_188 : decode cX12_countsRow 188 = .ok (.iinc 3 1, 3) := by decide +kernel
theorem dX12_countsRow_191 : decode cX12_countsRow 191 = .ok (.goto (-47), 3) := by decide +kernel
theorem dX12_countsRow_194 : decode cX12_countsRow 194 = .ok (.return_, 1) := by decide +kernel
theorem dX12_goesOnAt_0 : decode cX12_goesOnAt 0 = .ok (.aload_n 0, 1) := by decide +kernel
theorem dX12_goesOnAt_1 : decode cX12_goesOnAt 1 = .ok (.getfield 62, 3) := by decide +kernel
theorem dX12_goesOnAt_4 : decode cX12_goesOnAt 4 = .ok (.iload_n 1, 1) := by decide +kernel
theorem dX12_goesOnAt_5 : decode cX12_goesOnAt 5 = .ok (.dup2, 1) := by decide +kernel
theorem dX12_goesOnAt_6 : decode cX12_goesOnAt 6 = .ok (.iaload, 1) := by decide +kernel
theorem dX12_goesOnAt_7 : decode cX12_goesOnAt 7 = .ok (.iconst 1, 1) := by decide +kernel
theorem dX12_goesOnAt_8 : decode cX12_goesOnAt 8 = .ok (.iadd, 1) := by decide +kernel
theorem dX12_goesOnAt_9 : decode cX12_goesOnAt 9 = .ok (.iastore, 1) := by decide +kernel
theorem dX12_goesOnAt_10 : decode cX12_goesOnAt 10 = .ok (.aload_n 0, 1) := by decide +kernel
theorem dX12_goesOnAt_11 : decode cX12_goesOnAt 11 = .ok (.getfield 62, 3) := by decide +kernel
theorem dX12_goesOnAt_14 : decode cX12_goesOnAt 14 = .ok (.iload_n 1, 1) := by decide +kernel
theorem dX12_goesOnAt_15 : decode cX12_goesOnAt 15 = .ok (.iaload, 1) := by decide +kernel
theorem dX12_goesOnAt_16 : decode cX12_goesOnAt 16 = .ok (.aload_n 0, 1) := by decide +kernel
theorem dX12_goesOnAt_17 : decode cX12_goesOnAt 17 = .ok (.getfield 39, 3) := by decide +kernel
theorem dX12_goesOnAt_20 : decode cX12_goesOnAt 20 = .ok (.iconst 2, 1) := by decide +kernel
theorem dX12_goesOnAt_21 : decode cX12_goesOnAt 21 = .ok (.iaload, 1) := by decide +kernel
theorem dX12_goesOnAt_22 : decode cX12_goesOnAt 22 = .ok (.if_icmp .ne 20, 3) := by decide +kernel
theorem dX12_goesOnAt_25 : decode cX12_goesOnAt 25 = .ok (.aload_n 0, 1) := by decide +kernel
theorem dX12_goesOnAt_26 : decode cX12_goesOnAt 26 = .ok (.getfield 62, 3) := by decide +kernel
theorem dX12_goesOnAt_29 : decode cX12_goesOnAt 29 = .ok (.iload_n 1, 1) := by decide +kernel
theorem dX12_goesOnAt_30 : decode cX12_goesOnAt 30 = .ok (.iconst 0, 1) := by decide +kernel
theorem dX12_goesOnAt_31 : decode cX12_goesOnAt 31 = .ok (.iastore, 1) := by decide +kernel
theorem dX12_goesOnAt_32 : decode cX12_goesOnAt 32 = .ok (.aload_n 0, 1) := by decide +kernel
theorem dX12_goesOnAt_33 : decode cX12_goesOnAt 33 = .ok (.getfield 59, 3) := by decide +kernel
theorem dX12_goesOnAt_36 : decode cX12_goesOnAt 36 = .ok (.iload_n 1, 1) := by decide +kernel
theorem dX12_goesOnAt_37 : decode cX12_goesOnAt 37 = .ok (.dup2, 1) := by decide +kernel
theorem dX12_goesOnAt_38 : decode cX12_goesOnAt 38 = .ok (.iaload, 1) := by decide +kernel
theorem dX12_goesOnAt_39 : decode cX12_goesOnAt 39 = .ok (.iconst 1, 1) := by decide +kernel
theorem dX12_goesOnAt_40 : decode cX12_goesOnAt 40 = .ok (.iadd, 1) := by decide +kernel
theorem dX12_goesOnAt_41 : decode cX12_goesOnAt 41 = .ok (.iastore, 1) := by decide +kernel
theorem dX12_goesOnAt_42 : decode cX12_goesOnAt 42 = .ok (.aload_n 0, 1) := by decide +kernel
theorem dX12_goesOnAt_43 : decode cX12_goesOnAt 43 = .ok (.getfield 59, 3) := by decide +kernel
theorem dX12_goesOnAt_46 : decode cX12_goesOnAt 46 = .ok (.iload_n 1, 1) := by decide +kernel
theorem dX12_goesOnAt_47 : decode cX12_goesOnAt 47 = .ok (.iaload, 1) := by decide +kernel
theorem dX12_goesOnAt_48 : decode cX12_goesOnAt 48 = .ok (.aload_n 0, 1) := by decide +kernel
theorem dX12_goesOnAt_49 : decode cX12_goesOnAt 49 = .ok (.getfield 398, 3) := by decide +kernel
theorem dX12_goesOnAt_52 : decode cX12_goesOnAt 52 = .ok (.if_icmp .eq 12, 3) := by decide +kernel
theorem dX12_goesOnAt_55 : decode cX12_goesOnAt 55 = .ok (.aload_n 0, 1) := by decide +kernel
theorem dX12_goesOnAt_56 : decode cX12_goesOnAt 56 = .ok (.getfield 39, 3) := by decide +kernel
theorem dX12_goesOnAt_59 : decode cX12_goesOnAt 59 = .ok (.iconst 2, 1) := by decide +kernel
theorem dX12_goesOnAt_60 : decode cX12_goesOnAt 60 = .ok (.iaload, 1) := by decide +kernel
theorem dX12_goesOnAt_61 : decode cX12_goesOnAt 61 = .ok (.ifCond .ne 5, 3) := by decide +kernel
theorem dX12_goesOnAt_64 : decode cX12_goesOnAt 64 = .ok (.iconst 0, 1) := by decide +kernel
theorem dX12_goesOnAt_65 : decode cX12_goesOnAt 65 = .ok (.ireturn, 1) := by decide +kernel
theorem dX12_goesOnAt_66 : decode cX12_goesOnAt 66 = .ok (.iconst 0, 1) := by decide +kernel
theorem dX12_goesOnAt_67 : decode cX12_goesOnAt 67 = .ok (.istore_n 2, 1) := by decide +kernel
theorem dX12_goesOnAt_68 : decode cX12_goesOnAt 68 = .ok (.iconst 0, 1) := by decide +kernel
theorem dX12_goesOnAt_69 : decode cX12_goesOnAt 69 = .ok (.istore_n 3, 1) := by decide +kernel
theorem dX12_goesOnAt_70 : decode cX12_goesOnAt 70 = .ok (.iload_n 3, 1) := by decide +kernel
theorem dX12_goesOnAt_71 : decode cX12_goesOnAt 71 = .ok (.iload_n 1, 1) := by decide +kernel
theorem dX12_goesOnAt_72 : decode cX12_goesOnAt 72 = .ok (.if_icmp .ge 34, 3) := by decide +kernel
theorem dX12_goesOnAt_75 : decode cX12_goesOnAt 75 = .ok (.iload_n 2, 1) := by decide +kernel
theorem dX12_goesOnAt_76 : decode cX12_goesOnAt 76 = .ok (.ifCond .ne 18, 3) := by decide +kernel
theorem dX12_goesOnAt_79 : decode cX12_goesOnAt 79 = .ok (.aload_n 0, 1) := by decide +kernel
theorem dX12_goesOnAt_80 : decode cX12_goesOnAt 80 = .ok (.getfield 59, 3) := by decide +kernel
theorem dX12_goesOnAt_83 : decode cX12_goesOnAt 83 = .ok (.iload_n 3, 1) := by decide +kernel
theorem dX12_goesOnAt_84 : decode cX12_goesOnAt 84 = .ok (.iaload, 1) := by decide +kernel
theorem dX12_goesOnAt_85 : decode cX12_goesOnAt 85 = .ok (.aload_n 0, 1) := by decide +kernel
theorem dX12_goesOnAt_86 : decode cX12_goesOnAt 86 = .ok (.getfield 59, 3) := by decide +kernel
theorem dX12_goesOnAt_89 : decode cX12_goesOnAt 89 = .ok (.iload_n 1, 1) := by decide +kernel
theorem dX12_goesOnAt_90 : decode cX12_goesOnAt 90 = .ok (.iaload, 1) := by decide +kernel
theorem dX12_goesOnAt_91 : decode cX12_goesOnAt 91 = .ok (.if_icmp .ne 7, 3) := by decide +kernel
theorem dX12_goesOnAt_94 : decode cX12_goesOnAt 94 = .ok (.iconst 1, 1) := by decide +kernel
theorem dX12_goesOnAt_95 : decode cX12_goesOnAt 95 = .ok (.goto 4, 3) := by decide +kernel
theorem dX12_goesOnAt_98 : decode cX12_goesOnAt 98 = .ok (.iconst 0, 1) := by decide +kernel
theorem dX12_goesOnAt_99 : decode cX12_goesOnAt 99 = .ok (.istore_n 2, 1) := by decide +kernel
theorem dX12_goesOnAt_100 : decode cX12_goesOnAt 100 = .ok (.iinc 3 1, 3) := by decide +kernel
theorem dX12_goesOnAt_103 : decode cX12_goesOnAt 103 = .ok (.goto (-33), 3) := by decide +kernel
theorem dX12_goesOnAt_106 : decode cX12_goesOnAt 106 = .ok (.iload_n 2, 1) := by decide +kernel
theorem dX12_goesOnAt_107 : decode cX12_goesOnAt 107 = .ok (.ifCond .eq 6, 3) := by decide +kernel
theorem dX12_goesOnAt_110 : decode cX12_goesOnAt 110 = .ok (.goto (-110), 3) := by decide +kernel
theorem dX12_goesOnAt_113 : decode cX12_goesOnAt 113 = .ok (.aload_n 0, 1) := by decide +kernel
theorem dX12_goesOnAt_114 : decode cX12_goesOnAt 114 = .ok (.getfield 65, 3) := by decide +kernel
theorem dX12_goesOnAt_117 : decode cX12_goesOnAt 117 = .ok (.iload_n 1, 1) := by decide +kernel
theorem dX12_goesOnAt_118 : decode cX12_goesOnAt 118 = .ok (.aload_n 0, 1) := by decide +kernel
theorem dX12_goesOnAt_119 : decode cX12_goesOnAt 119 = .ok (.iload_n 1, 1) := by decide +kernel
theorem dX12_goesOnAt_120 : decode cX12_goesOnAt 120 = .ok (.aload_n 0, 1) := by decide +kernel
theorem dX12_goesOnAt_121 : decode cX12_goesOnAt 121 = .ok (.getfield 59, 3) := by decide +kernel
theorem dX12_goesOnAt_124 : decode cX12_goesOnAt 124 = .ok (.iload_n 1, 1) := by decide +kernel
theorem dX12_goesOnAt_125 : decode cX12_goesOnAt 125 = .ok (.iaload, 1) := by decide +kernel
theorem dX12_goesOnAt_126 : decode cX12_goesOnAt 126 = .ok (.aload_n 0, 1) := by decide +kernel
theorem dX12_goesOnAt_127 : decode cX12_goesOnAt 127 = .ok (.getfield 62, 3) := by decide +kernel
theorem dX12_goesOnAt_130 : decode cX12_goesOnAt 130 = .ok (.iload_n 1, 1) := by decide +kernel
theorem dX12_goesOnAt_131 : decode cX12_goesOnAt 131 = .ok (.iaload, 1) := by decide +kernel
theorem dX12_goesOnAt_132 : decode cX12_goesOnAt 132 = .ok (.invokevirtual 419, 3) := by decide +kernel
theorem dX12_goesOnAt_135 : decode cX12_goesOnAt 135 = .ok (.iastore, 1) := by decide +kernel
theorem dX12_goesOnAt_136 : decode cX12_goesOnAt 136 = .ok (.aload_n 0, 1) := by decide +kernel
theorem dX12_goesOnAt_137 : decode cX12_goesOnAt 137 = .ok (.getfield 65, 3) := by decide +kernel
theorem dX12_goesOnAt_140 : decode cX12_goesOnAt 140 = .ok (.iload_n 1, 1) := by decide +kernel
theorem dX12_goesOnAt_141 : decode cX12_goesOnAt 141 = .ok (.iaload, 1) := by decide +kernel
theorem dX12_goesOnAt_142 : decode cX12_goesOnAt 142 = .ok (.ifCond .lt 5, 3) := by decide +kernel
theorem dX12_goesOnAt_145 : decode cX12_goesOnAt 145 = .ok (.iconst 1, 1) := by decide +kernel
theorem dX12_goesOnAt_146 : decode cX12_goesOnAt 146 = .ok (.ireturn, 1) := by decide +kernel
theorem dX12_goesOnAt_147 : decode cX12_goesOnAt 147 = .ok (.goto (-147), 3) := by decide +kernel
theorem dX12_beginsPlace_0 : decode cX12_beginsPlace 0 = .ok (.aload_n 0, 1) := by decide +kernel
theorem dX12_beginsPlace_1 : decode cX12_beginsPlace 1 = .ok (.getfield 59, 3) := by decide +kernel
theorem dX12_beginsPlace_4 : decode cX12_beginsPlace 4 = .ok (.iload_n 1, 1) := by decide +kernel
theorem dX12_beginsPlace_5 : decode cX12_beginsPlace 5 = .ok (.iconst 0, 1) := by decide +kernel
theorem dX12_beginsPlace_6 : decode cX12_beginsPlace 6 = .ok (.iastore, 1) := by decide +kernel
theorem dX12_beginsPlace_7 : decode cX12_beginsPlace 7 = .ok (.aload_n 0, 1) := by decide +kernel
theorem dX12_beginsPlace_8 : decode cX12_beginsPlace 8 = .ok (.getfield 62, 3) := by decide +kernel
theorem dX12_beginsPlace_11 : decode cX12_beginsPlace 11 = .ok (.iload_n 1, 1) := by decide +kernel
theorem dX12_beginsPlace_12 : decode cX12_beginsPlace 12 = .ok (.iconst (-1), 1) := by decide +kernel
theorem dX12_beginsPlace_13 : decode cX12_beginsPlace 13 = .ok (.iastore, 1) := by decide +kernel
theorem dX12_beginsPlace_14 : decode cX12_beginsPlace 14 = .ok (.return_, 1) := by decide +kernel
theorem dX12_findsBenches_0 : decode cX12_findsBenches 0 = .ok (.aload_n 0, 1) := by decide +kernel
theorem dX12_findsBenches_1 : decode cX12_findsBenches 1 = .ok (.iconst (-1), 1) := by decide +kernel
theorem dX12_findsBenches_2 : decode cX12_findsBenches 2 = .ok (.putfield 410, 3) := by decide +kernel
theorem dX12_findsBenches_5 : decode cX12_findsBenches 5 = .ok (.aload_n 0, 1) := by decide +kernel
theorem dX12_findsBenches_6 : decode cX12_findsBenches 6 = .ok (.iconst (-1), 1) := by decide +kernel
theorem dX12_findsBenches_7 : decode cX12_findsBenches 7 = .ok (.putfield 413, 3) := by decide +kernel
theorem dX12_findsBenches_10 : decode cX12_findsBenches 10 = .ok (.iconst 0, 1) := by decide +kernel
theorem dX12_findsBenches_11 : decode cX12_findsBenches 11 = .ok (.istore_n 1, 1) := by decide +kernel
theorem dX12_findsBenches_12 : decode cX12_findsBenches 12 = .ok (.iload_n 1, 1) := by decide +kernel
theorem dX12_findsBenches_13 : decode cX12_findsBenches 13 = .ok (.aload_n 0, 1) := by decide +kernel
theorem dX12_findsBenches_14 : decode cX12_findsBenches 14 = .ok (.getfield 398, 3) := by decide +kernel
theorem dX12_findsBenches_17 : decode cX12_findsBenches 17 = .ok (.if_icmp .ge 19, 3) := by decide +kernel
theorem dX12_findsBenches_20 : decode cX12_findsBenches 20 = .ok (.aload_n 0, 1) := by decide +kernel
theorem dX12_findsBenches_21 : decode cX12_findsBenches 21 = .ok (.getfield 68, 3) := by decide +kernel
theorem dX12_findsBenches_24 : decode cX12_findsBenches 24 = .ok (.iload_n 1, 1) := by decide +kernel
theorem dX12_findsBenches_25 : decode cX12_findsBenches 25 = .ok (.aload_n 0, 1) := by decide +kernel
theorem dX12_findsBenches_26 : decode cX12_findsBenches 26 = .ok (.getfield 398, 3) := by decide +kernel
theorem dX12_findsBenches_29 : decode cX12_findsBenches 29 = .ok (.iastore, 1) := by decide +kernel
theorem dX12_findsBenches_30 : decode cX12_findsBenches 30 = .ok (.iinc 1 1, 3) := by decide +kernel
theorem dX12_findsBenches_33 : decode cX12_findsBenches 33 = .ok (.goto (-21), 3) := by decide +kernel
theorem dX12_findsBenches_36 : decode cX12_findsBenches 36 = .ok (.iconst 0, 1) := by decide +kernel
theorem dX12_findsBenches_37 : decode cX12_findsBenches 37 = .ok (.istore_n 1, 1) := by decide +kernel
theorem dX12_findsBenches_38 : decode cX12_findsBenches 38 = .ok (.aload_n 0, 1) := by decide +kernel
theorem dX12_findsBenches_39 : decode cX12_findsBenches 39 = .ok (.iconst 0, 1) := by decide +kernel
theorem dX12_findsBenches_40 : decode cX12_findsBenches 40 = .ok (.invokevirtual 422, 3) := by decide +kernel
theorem dX12_findsBenches_43 : decode cX12_findsBenches 43 = .ok (.iload_n 1, 1) := by decide +kernel
theorem dX12_findsBenches_44 : decode cX12_findsBenches 44 = .ok (.ifCond .lt 45, 3) := by decide +kernel
theorem dX12_findsBenches_47 : decode cX12_findsBenches 47 = .ok (.aload_n 0, 1) := by decide +kernel
theorem dX12_findsBenches_48 : decode cX12_findsBenches 48 = .ok (.iload_n 1, 1) := by decide +kernel
theorem dX12_findsBenches_49 : decode cX12_findsBenches 49 = .ok (.invokevirtual 425, 3) := by decide +kernel
theorem dX12_findsBenches_52 : decode cX12_findsBenches 52 = .ok (.ifCond .ne 9, 3) := by decide +kernel
theorem dX12_findsBenches_55 : decode cX12_findsBenches 55 = .ok (.iinc 1 (-1), 3) := by decide +kernel
theorem dX12_findsBenches_58 : decode cX12_findsBenches 58 = .ok (.goto (-15), 3) := by decide +kernel
theorem dX12_findsBenches_61 : decode cX12_findsBenches 61 = .ok (.iload_n 1, 1) := by decide +kernel
theorem dX12_findsBenches_62 : decode cX12_findsBenches 62 = .ok (.aload_n 0, 1) := by decide +kernel
theorem dX12_findsBenches_63 : decode cX12_findsBenches 63 = .ok (.getfield 398, 3) := by decide +kernel
theorem dX12_findsBenches_66 : decode cX12_findsBenches 66 = .ok (.iconst 1, 1) := by decide +kernel
theorem dX12_findsBenches_67 : decode cX12_findsBenches 67 = .ok (.isub, 1) := by decide +kernel
theorem dX12_findsBenches_68 : decode cX12_findsBenches 68 = .ok (.if_icmp .ne 10, 3) := by decide +kernel
theorem dX12_findsBenches_71 : decode cX12_findsBenches 71 = .ok (.aload_n 0, 1) := by decide +kernel
theorem dX12_findsBenches_72 : decode cX12_findsBenches 72 = .ok (.invokevirtual 428, 3) := by decide +kernel
theorem dX12_findsBenches_75 : decode cX12_findsBenches 75 = .ok (.goto (-32), 3) := by decide +kernel
theorem dX12_findsBenches_78 : decode cX12_findsBenches 78 = .ok (.iinc 1 1, 3) := by decide +kernel
theorem dX12_findsBenches_81 : decode cX12_findsBenches 81 = .ok (.aload_n 0, 1) := by decide +kernel
theorem dX12_findsBenches_82 : decode cX12_findsBenches 82 = .ok (.iload_n 1, 1) := by decide +kernel
theorem dX12_findsBenches_83 : decode cX12_findsBenches 83 = .ok (.invokevirtual 422, 3) := by decide +kernel
theorem dX12_findsBenches_86 : decode cX12_findsBenches 86 = .ok (.goto (-43), 3) := by decide +kernel
theorem dX12_findsBenches_89 : decode cX12_findsBenches 89 = .ok (.return_, 1) := by decide +kernel
theorem dX12_benchesNow_0 : decode cX12_benchesNow 0 = .ok (.aload_n 0, 1) := by decide +kernel
theorem dX12_benchesNow_1 : decode cX12_benchesNow 1 = .ok (.invokevirtual 431, 3) := by decide +kernel
theorem dX12_benchesNow_4 : decode cX12_benchesNow 4 = .ok (.aload_n 0, 1) := by decide +kernel
theorem dX12_benchesNow_5 : decode cX12_benchesNow 5 = .ok (.getfield 398, 3) := by decide +kernel
theorem dX12_benchesNow_8 : decode cX12_benchesNow 8 = .ok (.iconst 4, 1) := by decide +kernel
theorem dX12_benchesNow_9 : decode cX12_benchesNow 9 = .ok (.if_icmp .le 6, 3) := by decide +kernel
theorem dX12_benchesNow_12 : decode cX12_benchesNow 12 = .ok (.bipush (-3), 2) := by decide +kernel
theorem dX12_benchesNow_14 : decode cX12_benchesNow 14 = .ok (.ireturn, 1) := by decide +kernel
theorem dX12_benchesNow_15 : decode cX12_benchesNow 15 = .ok (.aload_n 0, 1) := by decide +kernel
theorem dX12_benchesNow_16 : decode cX12_benchesNow 16 = .ok (.iconst 0, 1) := by decide +kernel
theorem dX12_benchesNow_17 : decode cX12_benchesNow 17 = .ok (.putfield 410, 3) := by decide +kernel
theorem dX12_benchesNow_20 : decode cX12_benchesNow 20 = .ok (.aload_n 0, 1) := by decide +kernel
theorem dX12_benchesNow_21 : decode cX12_benchesNow 21 = .ok (.iconst (-1), 1) := by decide +kernel
theorem dX12_benchesNow_22 : decode cX12_benchesNow 22 = .ok (.putfield 413, 3) := by decide +kernel
theorem dX12_benchesNow_25 : decode cX12_benchesNow 25 = .ok (.aload_n 0, 1) := by decide +kernel
theorem dX12_benchesNow_26 : decode cX12_benchesNow 26 = .ok (.getfield 398, 3) := by decide +kernel
theorem dX12_benchesNow_29 : decode cX12_benchesNow 29 = .ok (.ifCond .ne 5, 3) := by decide +kernel
theorem dX12_benchesNow_32 : decode cX12_benchesNow 32 = .ok (.iconst 0, 1) := by decide +kernel
theorem dX12_benchesNow_33 : decode cX12_benchesNow 33 = .ok (.ireturn, 1) := by decide +kernel
theorem dX12_benchesNow_34 : decode cX12_benchesNow 34 = .ok (.aload_n 0, 1) := by decide +kernel
theorem dX12_benchesNow_35 : decode cX12_benchesNow 35 = .ok (.invokevirtual 434, 3) := by decide +kernel
theorem dX12_benchesNow_38 : decode cX12_benchesNow 38 = .ok (.aload_n 0, 1) := by decide +kernel
theorem dX12_benchesNow_39 : decode cX12_benchesNow 39 = .ok (.invokevirtual 437, 3) := by decide +kernel
theorem dX12_benchesNow_42 : decode cX12_benchesNow 42 = .ok (.aload_n 0, 1) := by decide +kernel
theorem dX12_benchesNow_43 : decode cX12_benchesNow 43 = .ok (.getfield 410, 3) := by decide +kernel
theorem dX12_benchesNow_46 : decode cX12_benchesNow 46 = .ok (.ifCond .ge 8, 3) := by decide +kernel
theorem dX12_benchesNow_49 : decode cX12_benchesNow 49 = .ok (.bipush (-2), 2) := by decide +kernel
theorem dX12_benchesNow_51 : decode cX12_benchesNow 51 = .ok (.goto 4, 3) := by decide +kernel
theorem dX12_benchesNow_54 : decode cX12_benchesNow 54 = .ok (.iconst 0, 1) := by decide +kernel
theorem dX12_benchesNow_55 : decode cX12_benchesNow 55 = .ok (.ireturn, 1) := by decide +kernel
theorem dX12_benches_0 : decode cX12_benches 0 = .ok (.aload_n 0, 1) := by decide +kernel
theorem dX12_benches_1 : decode cX12_benches 1 = .ok (.invokevirtual 380, 3) := by decide +kernel
theorem dX12_benches_4 : decode cX12_benches 4 = .ok (.ifCond .eq 15, 3) := by decide +kernel
theorem dX12_benches_7 : decode cX12_benches 7 = .ok (.iload_n 1, 1) := by decide +kernel
theorem dX12_benches_8 : decode cX12_benches 8 = .ok (.i2l, 1) := by decide +kernel
theorem dX12_benches_9 : decode cX12_benches 9 = .ok (.lconst 0, 1) := by decide +kernel
theorem dX12_benches_10 : decode cX12_benches 10 = .ok (.ldc2_w 440, 3) := by decide +kernel
theorem dX12_benches_13 : decode cX12_benches 13 = .ok (.invokestatic 142, 3) := by decide +kernel
theorem dX12_benches_16 : decode cX12_benches 16 = .ok (.ifCond .ne 5, 3) := by decide +kernel
theorem dX12_benches_19 : decode cX12_benches 19 = .ok (.iconst (-1), 1) := by decide +kernel
theorem dX12_benches_20 : decode cX12_benches 20 = .ok (.ireturn, 1) := by decide +kernel
theorem dX12_benches_21 : decode cX12_benches 21 = .ok (.aload_n 0, 1) := by decide +kernel
theorem dX12_benches_22 : decode cX12_benches 22 = .ok (.invokevirtual 442, 3) := by decide +kernel
theorem dX12_benches_25 : decode cX12_benches 25 = .ok (.istore_n 2, 1) := by decide +kernel
theorem dX12_benches_26 : decode cX12_benches 26 = .ok (.iload_n 2, 1) := by decide +kernel
theorem dX12_benches_27 : decode cX12_benches 27 = .ok (.ifCond .eq 5, 3) := by decide +kernel
theorem dX12_benches_30 : decode cX12_benches 30 = .ok (.iload_n 2, 1) := by decide +kernel
theorem dX12_benches_31 : decode cX12_benches 31 = .ok (.ireturn, 1) := by decide +kernel
theorem dX12_benches_32 : decode cX12_benches 32 = .ok (.iload_n 1, 1) := by decide +kernel
theorem dX12_benches_33 : decode cX12_benches 33 = .ok (.ifCond .ne 8, 3) := by decide +kernel
theorem dX12_benches_36 : decode cX12_benches 36 = .ok (.aload_n 0, 1) := by decide +kernel
theorem dX12_benches_37 : decode cX12_benches 37 = .ok (.getfield 410, 3) := by decide +kernel
theorem dX12_benches_40 : decode cX12_benches 40 = .ok (.ireturn, 1) := by decide +kernel
theorem dX12_benches_41 : decode cX12_benches 41 = .ok (.iload_n 1, 1) := by decide +kernel
theorem dX12_benches_42 : decode cX12_benches 42 = .ok (.iconst 1, 1) := by decide +kernel
theorem dX12_benches_43 : decode cX12_benches 43 = .ok (.if_icmp .ne 26, 3) := by decide +kernel
theorem dX12_benches_46 : decode cX12_benches 46 = .ok (.aload_n 0, 1) := by decide +kernel
theorem dX12_benches_47 : decode cX12_benches 47 = .ok (.getfield 413, 3) := by decide +kernel
theorem dX12_benches_50 : decode cX12_benches 50 = .ok (.ifCond .ge 7, 3) := by decide +kernel
theorem dX12_benches_53 : decode cX12_benches 53 = .ok (.iconst (-1), 1) := by decide +kernel
theorem dX12_benches_54 : decode cX12_benches 54 = .ok (.goto 14, 3) := by decide +kernel
theorem dX12_benches_57 : decode cX12_benches 57 = .ok (.aload_n 0, 1) := by decide +kernel
theorem dX12_benches_58 : decode cX12_benches 58 = .ok (.getfield 39, 3) := by decide +kernel
theorem dX12_benches_61 : decode cX12_benches 61 = .ok (.iconst 4, 1) := by decide +kernel
theorem dX12_benches_62 : decode cX12_benches 62 = .ok (.iaload, 1) := by decide +kernel
theorem dX12_benches_63 : decode cX12_benches 63 = .ok (.aload_n 0, 1) := by decide +kernel
theorem dX12_benches_64 : decode cX12_benches 64 = .ok (.getfield 413, 3) := by decide +kernel
theorem dX12_benches_67 : decode cX12_benches 67 = .ok (.iadd, 1) := by decide +kernel
theorem dX12_benches_68 : decode cX12_benches 68 = .ok (.ireturn, 1) := by decide +kernel
theorem dX12_benches_69 : decode cX12_benches 69 = .ok (.iload_n 1, 1) := by decide +kernel
theorem dX12_benches_70 : decode cX12_benches 70 = .ok (.iconst 2, 1) := by decide +kernel
theorem dX12_benches_71 : decode cX12_benches 71 = .ok (.isub, 1) := by decide +kernel
theorem dX12_benches_72 : decode cX12_benches 72 = .ok (.iconst 4, 1) := by decide +kernel
theorem dX12_benches_73 : decode cX12_benches 73 = .ok (.irem, 1) := by decide +kernel
theorem dX12_benches_74 : decode cX12_benches 74 = .ok (.istore_n 3, 1) := by decide +kernel
theorem dX12_benches_75 : decode cX12_benches 75 = .ok (.iload_n 3, 1) := by decide +kernel
theorem dX12_benches_76 : decode cX12_benches 76 = .ok (.aload_n 0, 1) := by decide +kernel
theorem dX12_benches_77 : decode cX12_benches 77 = .ok (.getfield 398, 3) := by decide +kernel
theorem dX12_benches_80 : decode cX12_benches 80 = .ok (.if_icmp .lt 6, 3) := by decide +kernel
theorem dX12_benches_83 : decode cX12_benches 83 = .ok (.bipush (-2), 2) := by decide +kernel
theorem dX12_benches_85 : decode cX12_benches 85 = .ok (.ireturn, 1) := by decide +kernel
theorem dX12_benches_86 : decode cX12_benches 86 = .ok (.iload_n 1, 1) := by decide +kernel
theorem dX12_benches_87 : decode cX12_benches 87 = .ok (.bipush 6, 2) := by decide +kernel
theorem dX12_benches_89 : decode cX12_benches 89 = .ok (.if_icmp .ge 17, 3) := by decide +kernel
theorem dX12_benches_92 : decode cX12_benches 92 = .ok (.aload_n 0, 1) := by decide +kernel
theorem dX12_benches_93 : decode cX12_benches 93 = .ok (.getfield 49, 3) := by decide +kernel
theorem dX12_benches_96 : decode cX12_benches 96 = .ok (.aload_n 0, 1) := by decide +kernel
theorem dX12_benches_97 : decode cX12_benches 97 = .ok (.getfield 68, 3) := by decide +kernel
theorem dX12_benches_100 : decode cX12_benches 100 = .ok (.iload_n 3, 1) := by decide +kernel
theorem dX12_benches_101 : decode cX12_benches 101 = .ok (.iaload, 1) := by decide +kernel
theorem dX12_benches_102 : decode cX12_benches 102 = .ok (.iaload, 1) := by decide +kernel
theorem dX12_benches_103 : decode cX12_benches 103 = .ok (.goto 31, 3) := by decide +kernel
theorem dX12_benches_106 : decode cX12_benches 106 = .ok (.iload_n 1, 1) := by decide +kernel
theorem dX12_benches_107 : decode cX12_benches 107 = .ok (.bipush 10, 2) := by decide +kernel
theorem dX12_benches_109 : decode cX12_benches 109 = .ok (.if_icmp .ge 12, 3) := by decide +kernel
theorem dX12_benches_112 : decode cX12_benches 112 = .ok (.aload_n 0, 1) := by decide +kernel
theorem dX12_benches_113 : decode cX12_benches 113 = .ok (.getfield 71, 3) := by decide +kernel
theorem dX12_benches_116 : decode cX12_benches 116 = .ok (.iload_n 3, 1) := by decide +kernel
theorem dX12_benches_117 : decode cX12_benches 117 = .ok (.iaload, 1) := by decide +kernel
theorem dX12_benches_118 : decode cX12_benches 118 = .ok (.goto 16, 3) := by decide +kernel
theorem dX12_benches_121 : decode cX12_benches 121 = .ok (.aload_n 0, 1) := by decide +kernel
theorem dX12_benches_122 : decode cX12_benches 122 = .ok (.getfield 39, 3) := by decide +kernel
theorem dX12_benches_125 : decode cX12_benches 125 = .ok (.iconst 4, 1) := by decide +kernel
theorem dX12_benches_126 : decode cX12_benches 126 = .ok (.iaload, 1) := by decide +kernel
theorem dX12_benches_127 : decode cX12_benches 127 = .ok (.aload_n 0, 1) := by decide +kernel
theorem dX12_benches_128 : decode cX12_benches 128 = .ok (.getfield 74, 3) := by decide +kernel
theorem dX12_benches_131 : decode cX12_benches 131 = .ok (.iload_n 3, 1) := by decide +kernel
theorem dX12_benches_132 : decode cX12_benches 132 = .ok (.iaload, 1) := by decide +kernel
theorem dX12_benches_133 : decode cX12_benches 133 = .ok (.iadd, 1) := by decide +kernel
theorem dX12_benches_134 : decode cX12_benches 134 = .ok (.ireturn, 1) := by decide +kernel
theorem dX12_lesson_0 : decode cX12_lesson 0 = .ok (.aload_n 0, 1) := by decide +kernel
theorem dX12_lesson_1 : decode cX12_lesson 1 = .ok (.invokevirtual 380, 3) := by decide +kernel
theorem dX12_lesson_4 : decode cX12_lesson 4 = .ok (.ifCond .eq 13, 3) := by decide +kernel
theorem dX12_lesson_7 : decode cX12_lesson 7 = .ok (.iload_n 1, 1) := by decide +kernel
theorem dX12_lesson_8 : decode cX12_lesson 8 = .ok (.i2l, 1) := by decide +kernel
theorem dX12_lesson_9 : decode cX12_lesson 9 = .ok (.lconst 0, 1) := by decide +kernel
theorem dX12_lesson_10 : decode cX12_lesson 10 = .ok (.lconst 1, 1) := by decide +kernel
theorem dX12_lesson_11 : decode cX12_lesson 11 = .ok (.invokestatic 142, 3) := by decide +kernel
theorem dX12_lesson_14 : decode cX12_lesson 14 = .ok (.ifCond .ne 5, 3) := by decide +kernel
theorem dX12_lesson_17 : decode cX12_lesson 17 = .ok (.iconst (-1), 1) := by decide +kernel
theorem dX12_lesson_18 : decode cX12_lesson 18 = .ok (.ireturn, 1) := by decide +kernel
theorem dX12_lesson_19 : decode cX12_lesson 19 = .ok (.bipush (-2), 2) := by decide +kernel
theorem dX12_lesson_21 : decode cX12_lesson 21 = .ok (.istore_n 2, 1) := by decide +kernel
theorem dX12_lesson_22 : decode cX12_lesson 22 = .ok (.bipush (-2), 2) := by decide +kernel
theorem dX12_lesson_24 : decode cX12_lesson 24 = .ok (.istore_n 3, 1) := by decide +kernel
theorem dX12_lesson_25 : decode cX12_lesson 25 = .ok (.iconst 0, 1) := by decide +kernel
theorem dX12_lesson_26 : decode cX12_lesson 26 = .ok (.istore 4, 2) := by decide +kernel
theorem dX12_lesson_28 : decode cX12_lesson 28 = .ok (.iload 4, 2) := by decide +kernel
theorem dX12_lesson_30 : decode cX12_lesson 30 = .ok (.aload_n 0, 1) := by decide +kernel
theorem dX12_lesson_31 : decode cX12_lesson 31 = .ok (.getfield 39, 3) := by decide +kernel
theorem dX12_lesson_34 : decode cX12_lesson 34 = .ok (.iconst 2, 1) := by decide +kernel
theorem dX12_lesson_35 : decode cX12_lesson 35 = .ok (.iaload, 1) := by decide +kernel
theorem dX12_lesson_36 : decode cX12_lesson 36 = .ok (.if_icmp .ge 91, 3) := by decide +kernel
theorem dX12_lesson_39 : decode cX12_lesson 39 = .ok (.bipush 10, 2) := by decide +kernel
theorem dX12_lesson_41 : decode cX12_lesson 41 = .ok (.iconst 5, 1) := by decide +kernel
theorem dX12_lesson_42 : decode cX12_lesson 42 = .ok (.iload 4, 2) := by decide +kernel
theorem dX12_lesson_44 : decode cX12_lesson 44 = .ok (.imul, 1) := by decide +kernel
theorem dX12_lesson_45 : decode cX12_lesson 45 = .ok (.iadd, 1) := by decide +kernel
theorem dX12_lesson_46 : decode cX12_lesson 46 = .ok (.iconst 1, 1) := by decide +kernel
theorem dX12_lesson_47 : decode cX12_lesson 47 = .ok (.iadd, 1) := by decide +kernel
theorem dX12_lesson_48 : decode cX12_lesson 48 = .ok (.istore 5, 2) := by decide +kernel
theorem dX12_lesson_50 : decode cX12_lesson 50 = .ok (.aload_n 0, 1) := by decide +kernel
theorem dX12_lesson_51 : decode cX12_lesson 51 = .ok (.getfield 39, 3) := by decide +kernel
theorem dX12_lesson_54 : decode cX12_lesson 54 = .ok (.iload 5, 2) := by decide +kernel
theorem dX12_lesson_56 : decode cX12_lesson 56 = .ok (.iaload, 1) := by decide +kernel
theorem dX12_lesson_57 : decode cX12_lesson 57 = .ok (.bipush 9, 2) := by decide +kernel
theorem dX12_lesson_59 : decode cX12_lesson 59 = .ok (.if_icmp .ne 6, 3) := by decide +kernel
theorem dX12_lesson_62 : decode cX12_lesson 62 = .ok (.goto 59, 3) := by decide +kernel
theorem dX12_lesson_65 : decode cX12_lesson 65 = .ok (.aload_n 0, 1) := by decide +kernel
theorem dX12_lesson_66 : decode cX12_lesson 66 = .ok (.getfield 39, 3) := by decide +kernel
theorem dX12_lesson_69 : decode cX12_lesson 69 = .ok (.iload 5, 2) := by decide +kernel
theorem dX12_lesson_71 : decode cX12_lesson 71 = .ok (.dup2, 1) := by decide +kernel
theorem dX12_lesson_72 : decode cX12_lesson 72 = .ok (.iaload, 1) := by decide +kernel
theorem dX12_lesson_73 : decode cX12_lesson 73 = .ok (.iconst 1, 1) := by decide +kernel
theorem dX12_lesson_74 : decode cX12_lesson 74 = .ok (.iadd, 1) := by decide +kernel
theorem dX12_lesson_75 : decode cX12_lesson 75 = .ok (.iastore, 1) := by decide +kernel
theorem dX12_lesson_76 : decode cX12_lesson 76 = .ok (.aload_n 0, 1) := by decide +kernel
theorem dX12_lesson_77 : decode cX12_lesson 77 = .ok (.invokevirtual 442, 3) := by decide +kernel
theorem dX12_lesson_80 : decode cX12_lesson 80 = .ok (.istore 6, 2) := by decide +kernel
theorem dX12_lesson_82 : decode cX12_lesson 82 = .ok (.aload_n 0, 1) := by decide +kernel
theorem dX12_lesson_83 : decode cX12_lesson 83 = .ok (.getfield 39, 3) := by decide +kernel
theorem dX12_lesson_86 : decode cX12_lesson 86 = .ok (.iload 5, 2) := by decide +kernel
theorem dX12_lesson_88 : decode cX12_lesson 88 = .ok (.dup2, 1) := by decide +kernel
theorem dX12_lesson_89 : decode cX12_lesson 89 = .ok (.iaload, 1) := by decide +kernel
theorem dX12_lesson_90 : decode cX12_lesson 90 = .ok (.iconst 1, 1) := by decide +kernel
theorem dX12_lesson_91 : decode cX12_lesson 91 = .ok (.isub, 1) := by decide +kernel
theorem dX12_lesson_92 : decode cX12_lesson 92 = .ok (.iastore, 1) := by decide +kernel
theorem dX12_lesson_93 : decode cX12_lesson 93 = .ok (.iload 6, 2) := by decide +kernel
theorem dX12_lesson_95 : decode cX12_lesson 95 = .ok (.ifCond .ne 26, 3) := by decide +kernel
theorem dX12_lesson_98 : decode cX12_lesson 98 = .ok (.iload_n 2, 1) := by decide +kernel
theorem dX12_lesson_99 : decode cX12_lesson 99 = .ok (.ifCond .lt 14, 3) := by decide +kernel
theorem dX12_lesson_102 : decode cX12_lesson 102 = .ok (.aload_n 0, 1) := by decide +kernel
theorem dX12_lesson_103 : decode cX12_lesson 103 = .ok (.getfield 410, 3) := by decide +kernel
theorem dX12_lesson_106 : decode cX12_lesson 106 = .ok (.iload_n 3, 1) := by decide +kernel
theorem dX12_lesson_107 : decode cX12_lesson 107 = .ok (.if_icmp .gt 6, 3) := by decide +kernel
theorem dX12_lesson_110 : decode cX12_lesson 110 = .ok (.goto 11, 3) := by decide +kernel
theorem dX12_lesson_113 : decode cX12_lesson 113 = .ok (.iload 4, 2) := by decide +kernel
theorem dX12_lesson_115 : decode cX12_lesson 115 = .ok (.istore_n 2, 1) := by decide +kernel
theorem dX12_lesson_116 : decode cX12_lesson 116 = .ok (.aload_n 0, 1) := by decide +kernel
theorem dX12_lesson_117 : decode cX12_lesson 117 = .ok (.getfield 410, 3) := by decide +kernel
theorem dX12_lesson_120 : decode cX12_lesson 120 = .ok (.istore_n 3, 1) := by decide +kernel
theorem dX12_lesson_121 : decode cX12_lesson 121 = .ok (.iinc 4 1, 3) := by decide +kernel
theorem dX12_lesson_124 : decode cX12_lesson 124 = .ok (.goto (-96), 3) := by decide +kernel
theorem dX12_lesson_127 : decode cX12_lesson 127 = .ok (.aload_n 0, 1) := by decide +kernel
theorem dX12_lesson_128 : decode cX12_lesson 128 = .ok (.invokevirtual 431, 3) := by decide +kernel
theorem dX12_lesson_131 : decode cX12_lesson 131 = .ok (.aload_n 0, 1) := by decide +kernel
theorem dX12_lesson_132 : decode cX12_lesson 132 = .ok (.getfield 398, 3) := by decide +kernel
theorem dX12_lesson_135 : decode cX12_lesson 135 = .ok (.iconst 4, 1) := by decide +kernel
theorem dX12_lesson_136 : decode cX12_lesson 136 = .ok (.if_icmp .le 6, 3) := by decide +kernel
theorem dX12_lesson_139 : decode cX12_lesson 139 = .ok (.bipush (-3), 2) := by decide +kernel
theorem dX12_lesson_141 : decode cX12_lesson 141 = .ok (.ireturn, 1) := by decide +kernel
theorem dX12_lesson_142 : decode cX12_lesson 142 = .ok (.iload_n 1, 1) := by decide +kernel
theorem dX12_lesson_143 : decode cX12_lesson 143 = .ok (.ifCond .ne 7, 3) := by decide +kernel
theorem dX12_lesson_146 : decode cX12_lesson 146 = .ok (.iload_n 2, 1) := by decide +kernel
theorem dX12_lesson_147 : decode cX12_lesson 147 = .ok (.goto 4, 3) := by decide +kernel
theorem dX12_lesson_150 : decode cX12_lesson 150 = .ok (.iload_n 3, 1) := by decide +kernel
theorem dX12_lesson_151 : decode cX12_lesson 151 = .ok (.ireturn, 1) := by decide +kernel
theorem dX12_isNext_0 : decode cX12_isNext 0 = .ok (.aload_n 0, 1) := by decide +kernel
theorem dX12_isNext_1 : decode cX12_isNext 1 = .ok (.iload_n 1, 1) := by decide +kernel
theorem dX12_isNext_2 : decode cX12_isNext 2 = .ok (.iload_n 2, 1) := by decide +kernel
theorem dX12_isNext_3 : decode cX12_isNext 3 = .ok (.aload_n 0, 1) := by decide +kernel
theorem dX12_isNext_4 : decode cX12_isNext 4 = .ok (.getfield 39, 3) := by decide +kernel
theorem dX12_isNext_7 : decode cX12_isNext 7 = .ok (.iconst 4, 1) := by decide +kernel
theorem dX12_isNext_8 : decode cX12_isNext 8 = .ok (.iaload, 1) := by decide +kernel
theorem dX12_isNext_9 : decode cX12_isNext 9 = .ok (.invokevirtual 354, 3) := by decide +kernel
theorem dX12_isNext_12 : decode cX12_isNext 12 = .ok (.ifCond .eq 20, 3) := by decide +kernel
theorem dX12_isNext_15 : decode cX12_isNext 15 = .ok (.iload_n 3, 1) := by decide +kernel
theorem dX12_isNext_16 : decode cX12_isNext 16 = .ok (.ifCond .lt 12, 3) := by decide +kernel
theorem dX12_isNext_19 : decode cX12_isNext 19 = .ok (.aload_n 0, 1) := by decide +kernel
theorem dX12_isNext_20 : decode cX12_isNext 20 = .ok (.iload_n 2, 1) := by decide +kernel
theorem dX12_isNext_21 : decode cX12_isNext 21 = .ok (.iload_n 3, 1) := by decide +kernel
theorem dX12_isNext_22 : decode cX12_isNext 22 = .ok (.invokevirtual 319, 3) := by decide +kernel
theorem dX12_isNext_25 : decode cX12_isNext 25 = .ok (.ifCond .eq 7, 3) := by decide +kernel
theorem dX12_isNext_28 : decode cX12_isNext 28 = .ok (.iconst 1, 1) := by decide +kernel
theorem dX12_isNext_29 : decode cX12_isNext 29 = .ok (.goto 4, 3) := by decide +kernel
theorem dX12_isNext_32 : decode cX12_isNext 32 = .ok (.iconst 0, 1) := by decide +kernel
theorem dX12_isNext_33 : decode cX12_isNext 33 = .ok (.ireturn, 1) := by decide +kernel
theorem dX12_fillsChains_0 : decode cX12_fillsChains 0 = .ok (.iconst 0, 1) := by decide +kernel
theorem dX12_fillsChains_1 : decode cX12_fillsChains 1 = .ok (.istore_n 2, 1) := by decide +kernel
theorem dX12_fillsChains_2 : decode cX12_fillsChains 2 = .ok (.iload_n 2, 1) := by decide +kernel
theorem dX12_fillsChains_3 : decode cX12_fillsChains 3 = .ok (.aload_n 0, 1) := by decide +kernel
theorem dX12_fillsChains_4 : decode cX12_fillsChains 4 = .ok (.getfield 39, 3) := by decide +kernel
theorem dX12_fillsChains_7 : decode cX12_fillsChains 7 = .ok (.iconst 2, 1) := by decide +kernel
theorem dX12_fillsChains_8 : decode cX12_fillsChains 8 = .ok (.iaload, 1) := by decide +kernel
theorem dX12_fillsChains_9 : decode cX12_fillsChains 9 = .ok (.if_icmp .ge 35, 3) := by decide +kernel
theorem dX12_fillsChains_12 : decode cX12_fillsChains 12 = .ok (.aload_n 0, 1) := by decide +kernel
theorem dX12_fillsChains_13 : decode cX12_fillsChains 13 = .ok (.getfield 77, 3) := by decide +kernel
theorem dX12_fillsChains_16 : decode cX12_fillsChains 16 = .ok (.iload_n 2, 1) := by decide +kernel
theorem dX12_fillsChains_17 : decode cX12_fillsChains 17 = .ok (.aload_n 0, 1) := by decide +kernel
theorem dX12_fillsChains_18 : decode cX12_fillsChains 18 = .ok (.iload_n 1, 1) := by decide +kernel
theorem dX12_fillsChains_19 : decode cX12_fillsChains 19 = .ok (.iload_n 2, 1) := by decide +kernel
theorem dX12_fillsChains_20 : decode cX12_fillsChains 20 = .ok (.aload_n 0, 1) := by decide +kernel
theorem dX12_fillsChains_21 : decode cX12_fillsChains 21 = .ok (.getfield 39, 3) := by decide +kernel
theorem dX12_fillsChains_24 : decode cX12_fillsChains 24 = .ok (.iconst 4, 1) := by decide +kernel
theorem dX12_fillsChains_25 : decode cX12_fillsChains 25 = .ok (.iaload, 1) := by decide +kernel
theorem dX12_fillsChains_26 : decode cX12_fillsChains 26 = .ok (.invokevirtual 354, 3) := by decide +kernel
theorem dX12_fillsChains_29 : decode cX12_fillsChains 29 = .ok (.ifCond .eq 7, 3) := by decide +kernel
theorem dX12_fillsChains_32 : decode cX12_fillsChains 32 = .ok (.iconst 1, 1) := by decide +kernel
theorem dX12_fillsChains_33 : decode cX12_fillsChains 33 = .ok (.goto 4, 3) := by decide +kernel
theorem dX12_fillsChains_36 : decode cX12_fillsChains 36 = .ok (.iconst 0, 1) := by decide +kernel
theorem dX12_fillsChains_37 : decode cX12_fillsChains 37 = .ok (.iastore, 1) := by decide +kernel
theorem dX12_fillsChains_38 : decode cX12_fillsChains 38 = .ok (.iinc 2 1, 3) := by decide +kernel
theorem dX12_fillsChains_41 : decode cX12_fillsChains 41 = .ok (.goto (-39), 3) := by decide +kernel
theorem dX12_fillsChains_44 : decode cX12_fillsChains 44 = .ok (.iconst 0, 1) := by decide +kernel
theorem dX12_fillsChains_45 : decode cX12_fillsChains 45 = .ok (.istore_n 2, 1) := by decide +kernel
theorem dX12_fillsChains_46 : decode cX12_fillsChains 46 = .ok (.iload_n 2, 1) := by decide +kernel
theorem dX12_fillsChains_47 : decode cX12_fillsChains 47 = .ok (.aload_n 0, 1) := by decide +kernel
theorem dX12_fillsChains_48 : decode cX12_fillsChains 48 = .ok (.getfield 39, 3) := by decide +kernel
theorem dX12_fillsChains_51 : decode cX12_fillsChains 51 = .ok (.iconst 2, 1) := by decide +kernel
theorem dX12_fillsChains_52 : decode cX12_fillsChains 52 = .ok (.iaload, 1) := by decide +kernel
theorem dX12_fillsChains_53 : decode cX12_fillsChains 53 = .ok (.if_icmp .ge 112, 3) := by decide +kernel
theorem dX12_fillsChains_56 : decode cX12_fillsChains 56 = .ok (.iconst 0, 1) := by decide +kernel
theorem dX12_fillsChains_57 : decode cX12_fillsChains 57 = .ok (.istore_n 3, 1) := by decide +kernel
theorem dX12_fillsChains_58 : decode cX12_fillsChains 58 = .ok (.iload_n 3, 1) := by decide +kernel
theorem dX12_fillsChains_59 : decode cX12_fillsChains 59 = .ok (.aload_n 0, 1) := by decide +kernel
theorem dX12_fillsChains_60 : decode cX12_fillsChains 60 = .ok (.getfield 39, 3) := by decide +kernel
theorem dX12_fillsChains_63 : decode cX12_fillsChains 63 = .ok (.iconst 2, 1) := by decide +kernel
theorem dX12_fillsChains_64 : decode cX12_fillsChains 64 = .ok (.iaload, 1) := by decide +kernel
theorem dX12_fillsChains_65 : decode cX12_fillsChains 65 = .ok (.if_icmp .ge 94, 3) := by decide +kernel
theorem dX12_fillsChains_68 : decode cX12_fillsChains 68 = .ok (.iconst 0, 1) := by decide +kernel
theorem dX12_fillsChains_69 : decode cX12_fillsChains 69 = .ok (.istore 4, 2) := by decide +kernel
theorem dX12_fillsChains_71 : decode cX12_fillsChains 71 = .ok (.iload 4, 2) := by decide +kernel
theorem dX12_fillsChains_73 : decode cX12_fillsChains 73 = .ok (.aload_n 0, 1) := by decide +kernel
theorem dX12_fillsChains_74 : decode cX12_fillsChains 74 = .ok (.getfield 39, 3) := by decide +kernel
theorem dX12_fillsChains_77 : decode cX12_fillsChains 77 = .ok (.iconst 2, 1) := by decide +kernel
theorem dX12_fillsChains_78 : decode cX12_fillsChains 78 = .ok (.iaload, 1) := by decide +kernel
theorem dX12_fillsChains_79 : decode cX12_fillsChains 79 = .ok (.if_icmp .ge 74, 3) := by decide +kernel
theorem dX12_fillsChains_82 : decode cX12_fillsChains 82 = .ok (.aload_n 0, 1) := by decide +kernel
theorem dX12_fillsChains_83 : decode cX12_fillsChains 83 = .ok (.getfield 77, 3) := by decide +kernel
theorem dX12_fillsChains_86 : decode cX12_fillsChains 86 = .ok (.iload_n 3, 1) := by decide +kernel
theorem dX12_fillsChains_87 : decode cX12_fillsChains 87 = .ok (.iaload, 1) := by decide +kernel
theorem dX12_fillsChains_88 : decode cX12_fillsChains 88 = .ok (.ifCond .eq 59, 3) := by decide +kernel
theorem dX12_fillsChains_91 : decode cX12_fillsChains 91 = .ok (.aload_n 0, 1) := by decide +kernel
theorem dX12_fillsChains_92 : decode cX12_fillsChains 92 = .ok (.getfield 77, 3) := by decide +kernel
theorem dX12_fillsChains_95 : decode cX12_fillsChains 95 = .ok (.iload 4, 2) := by decide +kernel
theorem dX12_fillsChains_97 : decode cX12_fillsChains 97 = .ok (.iaload, 1) := by decide +kernel
theorem dX12_fillsChains_98 : decode cX12_fillsChains 98 = .ok (.ifCond .eq 49, 3) := by decide +kernel
theorem dX12_fillsChains_101 : decode cX12_fillsChains 101 = .ok (.aload_n 0, 1) := by decide +kernel
theorem dX12_fillsChains_102 : decode cX12_fillsChains 102 = .ok (.iload 4, 2) := by decide +kernel
theorem dX12_fillsChains_104 : decode cX12_fillsChains 104 = .ok (.iload_n 3, 1) := by decide +kernel
theorem dX12_fillsChains_105 : decode cX12_fillsChains 105 = .ok (.invokevirtual 319, 3) := by decide +kernel
theorem dX12_fillsChains_108 : decode cX12_fillsChains 108 = .ok (.ifCond .ne 6, 3) := by decide +kernel
theorem dX12_fillsChains_111 : decode cX12_fillsChains 111 = .ok (.goto 36, 3) := by decide +kernel
theorem dX12_fillsChains_114 : decode cX12_fillsChains 114 = .ok (.aload_n 0, 1) := by decide +kernel
theorem dX12_fillsChains_115 : decode cX12_fillsChains 115 = .ok (.getfield 77, 3) := by decide +kernel
theorem dX12_fillsChains_118 : decode cX12_fillsChains 118 = .ok (.iload 4, 2) := by decide +kernel
theorem dX12_fillsChains_120 : decode cX12_fillsChains 120 = .ok (.iaload, 1) := by decide +kernel
theorem dX12_fillsChains_121 : decode cX12_fillsChains 121 = .ok (.iconst 1, 1) := by decide +kernel
theorem dX12_fillsChains_122 : decode cX12_fillsChains 122 = .ok (.iadd, 1) := by decide +kernel
theorem dX12_fillsChains_123 : decode cX12_fillsChains 123 = .ok (.aload_n 0, 1) := by decide +kernel
theorem dX12_fillsChains_124 : decode cX12_fillsChains 124 = .ok (.getfield 77, 3) := by decide +kernel
theorem dX12_fillsChains_127 : decode cX12_fillsChains 127 = .ok (.iload_n 3, 1) := by decide +kernel
theorem dX12_fillsChains_128 : decode cX12_fillsChains 128 = .ok (.iaload, 1) := by decide +kernel
theorem dX12_fillsChains_129 : decode cX12_fillsChains 129 = .ok (.if_icmp .le 18, 3) := by decide +kernel
theorem dX12_fillsChains_132 : decode cX12_fillsChains 132 = .ok (.aload_n 0, 1) := by decide +kernel
theorem dX12_fillsChains_133 : decode cX12_fillsChains 133 = .ok (.getfield 77, 3) := by decide +kernel
theorem dX12_fillsChains_136 : decode cX12_fillsChains 136 = .ok (.iload_n 3, 1) := by decide +kernel
theorem dX12_fillsChains_137 : decode cX12_fillsChains 137 = .ok (.aload_n 0, 1) := by decide +kernel
theorem dX12_fillsChains_138 : decode cX12_fillsChains 138 = .ok (.getfield 77, 3) := by decide +kernel
theorem dX12_fillsChains_141 : decode cX12_fillsChains 141 = .ok (.iload 4, 2) := by decide +kernel
theorem dX12_fillsChains_143 : decode cX12_fillsChains 143 = .ok (.iaload, 1) := by decide +kernel
theorem dX12_fillsChains_144 : decode cX12_fillsChains 144 = .ok (.iconst 1, 1) := by decide +kernel
theorem dX12_fillsChains_145 : decode cX12_fillsChains 145 = .ok (.iadd, 1) := by decide +kernel
theorem dX12_fillsChains_146 : decode cX12_fillsChains 146 = .ok (.iastore, 1) := by decide +kernel
theorem dX12_fillsChains_147 : decode cX12_fillsChains 147 = .ok (.iinc 4 1, 3) := by decide +kernel
theorem dX12_fillsChains_150 : decode cX12_fillsChains 150 = .ok (.goto (-79), 3) := by decide +kernel
theorem dX12_fillsChains_153 : decode cX12_fillsChains 153 = .ok (.iinc 3 1, 3) := by decide +kernel
theorem dX12_fillsChains_156 : decode cX12_fillsChains 156 = .ok (.goto (-98), 3) := by decide +kernel
theorem dX12_fillsChains_159 : decode cX12_fillsChains 159 = .ok (.iinc 2 1, 3) := by decide +kernel
theorem dX12_fillsChains_162 : decode cX12_fillsChains 162 = .ok (.goto (-116), 3) := by decide +kernel
theorem dX12_fillsChains_165 : decode cX12_fillsChains 165 = .ok (.return_, 1) := by decide +kernel
theorem dX12_down_0 : decode cX12_down 0 = .ok (.aload_n 0, 1) := by decide +kernel
theorem dX12_down_1 : decode cX12_down 1 = .ok (.iload_n 1, 1) := by decide +kernel
theorem dX12_down_2 : decode cX12_down 2 = .ok (.invokevirtual 347, 3) := by decide +kernel
theorem dX12_down_5 : decode cX12_down 5 = .ok (.ifCond .eq 15, 3) := by decide +kernel
theorem dX12_down_8 : decode cX12_down 8 = .ok (.iload_n 2, 1) := by decide +kernel
theorem dX12_down_9 : decode cX12_down 9 = .ok (.i2l, 1) := by decide +kernel
theorem dX12_down_10 : decode cX12_down 10 = .ok (.lconst 0, 1) := by decide +kernel
theorem dX12_down_11 : decode cX12_down 11 = .ok (.ldc2_w 445, 3) := by decide +kernel
theorem dX12_down_14 : decode cX12_down 14 = .ok (.invokestatic 142, 3) := by decide +kernel
theorem dX12_down_17 : decode cX12_down 17 = .ok (.ifCond .ne 5, 3) := by decide +kernel
theorem dX12_down_20 : decode cX12_down 20 = .ok (.iconst (-1), 1) := by decide +kernel
theorem dX12_down_21 : decode cX12_down 21 = .ok (.ireturn, 1) := by decide +kernel
theorem dX12_down_22 : decode cX12_down 22 = .ok (.aload_n 0, 1) := by decide +kernel
theorem dX12_down_23 : decode cX12_down 23 = .ok (.iload_n 1, 1) := by decide +kernel
theorem dX12_down_24 : decode cX12_down 24 = .ok (.invokevirtual 447, 3) := by decide +kernel
theorem dX12_down_27 : decode cX12_down 27 = .ok (.aload_n 0, 1) := by decide +kernel
theorem dX12_down_28 : decode cX12_down 28 = .ok (.iload_n 1, 1) := by decide +kernel
theorem dX12_down_29 : decode cX12_down 29 = .ok (.bipush 6, 2) := by decide +kernel
theorem dX12_down_31 : decode cX12_down 31 = .ok (.invokevirtual 331, 3) := by decide +kernel
theorem dX12_down_34 : decode cX12_down 34 = .ok (.istore_n 3, 1) := by decide +kernel
theorem dX12_down_35 : decode cX12_down 35 = .ok (.iconst 0, 1) := by decide +kernel
theorem dX12_down_36 : decode cX12_down 36 = .ok (.istore 4, 2) := by decide +kernel
theorem dX12_down_38 : decode cX12_down 38 = .ok (.iconst 0, 1) := by decide +kernel
theorem dX12_down_39 : decode cX12_down 39 = .ok (.istore 5, 2) := by decide +kernel
theorem dX12_down_41 : decode cX12_down 41 = .ok (.iload 5, 2) := by decide +kernel
theorem dX12_down_43 : decode cX12_down 43 = .ok (.aload_n 0, 1) := by decide +kernel
theorem dX12_down_44 : decode cX12_down 44 = .ok (.getfield 39, 3) := by decide +kernel
theorem dX12_down_47 : decode cX12_down 47 = .ok (.iconst 2, 1) := by decide +kernel
theorem dX12_down_48 : decode cX12_down 48 = .ok (.iaload, 1) := by decide +kernel
theorem dX12_down_49 : decode cX12_down 49 = .ok (.if_icmp .ge 41, 3) := by decide +kernel
theorem dX12_down_52 : decode cX12_down 52 = .ok (.aload_n 0, 1) := by decide +kernel
theorem dX12_down_53 : decode cX12_down 53 = .ok (.iload_n 1, 1) := by decide +kernel
theorem dX12_down_54 : decode cX12_down 54 = .ok (.iload 5, 2) := by decide +kernel
theorem dX12_down_56 : decode cX12_down 56 = .ok (.iload_n 3, 1) := by decide +kernel
theorem dX12_down_57 : decode cX12_down 57 = .ok (.invokevirtual 450, 3) := by decide +kernel
theorem dX12_down_60 : decode cX12_down 60 = .ok (.ifCond .eq 24, 3) := by decide +kernel
theorem dX12_down_63 : decode cX12_down 63 = .ok (.aload_n 0, 1) := by decide +kernel
theorem dX12_down_64 : decode cX12_down 64 = .ok (.getfield 77, 3) := by decide +kernel
theorem dX12_down_67 : decode cX12_down 67 = .ok (.iload 5, 2) := by decide +kernel
theorem dX12_down_69 : decode cX12_down 69 = .ok (.iaload, 1) := by decide +kernel
theorem dX12_down_70 : decode cX12_down 70 = .ok (.iload 4, 2) := by decide +kernel
theorem dX12_down_72 : decode cX12_down 72 = .ok (.if_icmp .le 12, 3) := by decide +kernel
theorem dX12_down_75 : decode cX12_down 75 = .ok (.aload_n 0, 1) := by decide +kernel
theorem dX12_down_76 : decode cX12_down 76 = .ok (.getfield 77, 3) := by decide +kernel
theorem dX12_down_79 : decode cX12_down 79 = .ok (.iload 5, 2) := by decide +kernel
theorem dX12_down_81 : decode cX12_down 81 = .ok (.iaload, 1) := by decide +kernel
theorem dX12_down_82 : decode cX12_down 82 = .ok (.istore 4, 2) := by decide +kernel
theorem dX12_down_84 : decode cX12_down 84 = .ok (.iinc 5 1, 3) := by decide +kernel
theorem dX12_down_87 : decode cX12_down 87 = .ok (.goto (-46), 3) := by decide +kernel
theorem dX12_down_90 : decode cX12_down 90 = .ok (.iload_n 2, 1) := by decide +kernel
theorem dX12_down_91 : decode cX12_down 91 = .ok (.ifCond .ne 6, 3) := by decide +kernel
theorem dX12_down_94 : decode cX12_down 94 = .ok (.iload 4, 2) := by decide +kernel
theorem dX12_down_96 : decode cX12_down 96 = .ok (.ireturn, 1) := by decide +kernel
theorem dX12_down_97 : decode cX12_down 97 = .ok (.iload_n 2, 1) := by decide +kernel
theorem dX12_down_98 : decode cX12_down 98 = .ok (.iload 4, 2) := by decide +kernel
theorem dX12_down_100 : decode cX12_down 100 = .ok (.if_icmp .le 6, 3) := by decide +kernel
theorem dX12_down_103 : decode cX12_down 103 = .ok (.bipush (-2), 2) := by decide +kernel
theorem dX12_down_105 : decode cX12_down 105 = .ok (.ireturn, 1) := by decide +kernel
theorem dX12_down_106 : decode cX12_down 106 = .ok (.iconst 0, 1) := by decide +kernel
theorem dX12_down_107 : decode cX12_down 107 = .ok (.istore 5, 2) := by decide +kernel
theorem dX12_down_109 : decode cX12_down 109 = .ok (.iload 5, 2) := by decide +kernel
theorem dX12_down_111 : decode cX12_down 111 = .ok (.iload_n 2, 1) := by decide +kernel
theorem dX12_down_112 : decode cX12_down 112 = .ok (.if_icmp .ge 47, 3) := by decide +kernel
theorem dX12_down_115 : decode cX12_down 115 = .ok (.iconst 0, 1) := by decide +kernel
theorem dX12_down_116 : decode cX12_down 116 = .ok (.istore 6, 2) := by decide +kernel
theorem dX12_down_118 : decode cX12_down 118 = .ok (.aload_n 0, 1) := by decide +kernel
theorem dX12_down_119 : decode cX12_down 119 = .ok (.iload_n 1, 1) := by decide +kernel
theorem dX12_down_120 : decode cX12_down 120 = .ok (.iload 6, 2) := by decide +kernel
theorem dX12_down_122 : decode cX12_down 122 = .ok (.iload_n 3, 1) := by decide +kernel
theorem dX12_down_123 : decode cX12_down 123 = .ok (.invokevirtual 450, 3) := by decide +kernel
theorem dX12_down_126 : decode cX12_down 126 = .ok (.ifCond .eq 18, 3) := by decide +kernel
theorem dX12_down_129 : decode cX12_down 129 = .ok (.aload_n 0, 1) := by decide +kernel
theorem dX12_down_130 : decode cX12_down 130 = .ok (.getfield 77, 3) := by decide +kernel
theorem dX12_down_133 : decode cX12_down 133 = .ok (.iload 6, 2) := by decide +kernel
theorem dX12_down_135 : decode cX12_down 135 = .ok (.iaload, 1) := by decide +kernel
theorem dX12_down_136 : decode cX12_down 136 = .ok (.iload 4, 2) := by decide +kernel
theorem dX12_down_138 : decode cX12_down 138 = .ok (.iload 5, 2) := by decide +kernel
theorem dX12_down_140 : decode cX12_down 140 = .ok (.isub, 1) := by decide +kernel
theorem dX12_down_141 : decode cX12_down 141 = .ok (.if_icmp .eq 9, 3) := by decide +kernel
theorem dX12_down_144 : decode cX12_down 144 = .ok (.iinc 6 1, 3) := by decide +kernel
theorem dX12_down_147 : decode cX12_down 147 = .ok (.goto (-29), 3) := by decide +kernel
theorem dX12_down_150 : decode cX12_down 150 = .ok (.iload 6, 2) := by decide +kernel
theorem dX12_down_152 : decode cX12_down 152 = .ok (.istore_n 3, 1) := by decide +kernel
theorem dX12_down_153 : decode cX12_down 153 = .ok (.iinc 5 1, 3) := by decide +kernel
theorem dX12_down_156 : decode cX12_down 156 = .ok (.goto (-47), 3) := by decide +kernel
theorem dX12_down_159 : decode cX12_down 159 = .ok (.iload_n 3, 1) := by decide +kernel
theorem dX12_down_160 : decode cX12_down 160 = .ok (.ireturn, 1) := by decide +kernel
theorem dX12_mostRight_0 : decode cX12_mostRight 0 = .ok (.iconst 0, 1) := by decide +kernel
theorem dX12_mostRight_1 : decode cX12_mostRight 1 = .ok (.istore 5, 2) := by decide +kernel
theorem dX12_mostRight_3 : decode cX12_mostRight 3 = .ok (.iconst 0, 1) := by decide +kernel
theorem dX12_mostRight_4 : decode cX12_mostRight 4 = .ok (.istore 6, 2) := by decide +kernel
theorem dX12_mostRight_6 : decode cX12_mostRight 6 = .ok (.iload 6, 2) := by decide +kernel
theorem dX12_mostRight_8 : decode cX12_mostRight 8 = .ok (.aload_n 0, 1) := by decide +kernel
theorem dX12_mostRight_9 : decode cX12_mostRight 9 = .ok (.getfield 39, 3) := by decide +kernel
theorem dX12_mostRight_12 : decode cX12_mostRight 12 = .ok (.iconst 2, 1) := by decide +kernel
theorem dX12_mostRight_13 : decode cX12_mostRight 13 = .ok (.iaload, 1) := by decide +kernel
theorem dX12_mostRight_14 : decode cX12_mostRight 14 = .ok (.if_icmp .ge 62, 3) := by decide +kernel
theorem dX12_mostRight_17 : decode cX12_mostRight 17 = .ok (.aload_n 0, 1) := by decide +kernel
theorem dX12_mostRight_18 : decode cX12_mostRight 18 = .ok (.iload 6, 2) := by decide +kernel
theorem dX12_mostRight_20 : decode cX12_mostRight 20 = .ok (.iload_n 1, 1) := by decide +kernel
theorem dX12_mostRight_21 : decode cX12_mostRight 21 = .ok (.iload_n 3, 1) := by decide +kernel
theorem dX12_mostRight_22 : decode cX12_mostRight 22 = .ok (.iload 4, 2) := by decide +kernel
theorem dX12_mostRight_24 : decode cX12_mostRight 24 = .ok (.invokevirtual 334, 3) := by decide +kernel
theorem dX12_mostRight_27 : decode cX12_mostRight 27 = .ok (.ifCond .ne 6, 3) := by decide +kernel
theorem dX12_mostRight_30 : decode cX12_mostRight 30 = .ok (.goto 40, 3) := by decide +kernel
theorem dX12_mostRight_33 : decode cX12_mostRight 33 = .ok (.aload_n 0, 1) := by decide +kernel
theorem dX12_mostRight_34 : decode cX12_mostRight 34 = .ok (.iload 6, 2) := by decide +kernel
theorem dX12_mostRight_36 : decode cX12_mostRight 36 = .ok (.iload_n 1, 1) := by decide +kernel
theorem dX12_mostRight_37 : decode cX12_mostRight 37 = .ok (.iload_n 2, 1) := by decide +kernel
theorem dX12_mostRight_38 : decode cX12_mostRight 38 = .ok (.iload_n 3, 1) := by decide +kernel
theorem dX12_mostRight_39 : decode cX12_mostRight 39 = .ok (.iload 4, 2) := by decide +kernel
theorem dX12_mostRight_41 : decode cX12_mostRight 41 = .ok (.aload_n 0, 1) := by decide +kernel
theorem dX12_mostRight_42 : decode cX12_mostRight 42 = .ok (.iload 6, 2) := by decide +kernel
theorem dX12_mostRight_44 : decode cX12_mostRight 44 = .ok (.iconst 4, 1) := by decide +kernel
theorem dX12_mostRight_45 : decode cX12_mostRight 45 = .ok (.invokevirtual 312, 3) := by decide +kernel
theorem dX12_mostRight_48 : decode cX12_mostRight 48 = .ok (.iconst 0, 1) := by decide +kernel
theorem dX12_mostRight_49 : decode cX12_mostRight 49 = .ok (.invokevirtual 369, 3) := by decide +kernel
theorem dX12_mostRight_52 : decode cX12_mostRight 52 = .ok (.istore 7, 2) := by decide +kernel
theorem dX12_mostRight_54 : decode cX12_mostRight 54 = .ok (.iload 7, 2) := by decide +kernel
theorem dX12_mostRight_56 : decode cX12_mostRight 56 = .ok (.iload 5, 2) := by decide +kernel
theorem dX12_mostRight_58 : decode cX12_mostRight 58 = .ok (.if_icmp .le 8, 3) := by decide +kernel
theorem dX12_mostRight_61 : decode cX12_mostRight 61 = .ok (.iload 7, 2) := by decide +kernel
theorem dX12_mostRight_63 : decode cX12_mostRight 63 = .ok (.goto 5, 3) := by decide +kernel
theorem dX12_mostRight_66 : decode cX12_mostRight 66 = .ok (.iload 5, 2) := by decide +kernel
theorem dX12_mostRight_68 : decode cX12_mostRight 68 = .ok (.istore 5, 2) := by decide +kernel
theorem dX12_mostRight_70 : decode cX12_mostRight 70 = .ok (.iinc 6 1, 3) := by decide +kernel
theorem dX12_mostRight_73 : decode cX12_mostRight 73 = .ok (.goto (-67), 3) := by decide +kernel
theorem dX12_mostRight_76 : decode cX12_mostRight 76 = .ok (.iload 5, 2) := by decide +kernel
theorem dX12_mostRight_78 : decode cX12_mostRight 78 = .ok (.ireturn, 1) := by decide +kernel
theorem dX12_commit_0 : decode cX12_commit 0 = .ok (.aload_n 0, 1) := by decide +kernel
theorem dX12_commit_1 : decode cX12_commit 1 = .ok (.iload_n 1, 1) := by decide +kernel
theorem dX12_commit_2 : decode cX12_commit 2 = .ok (.invokevirtual 341, 3) := by decide +kernel
theorem dX12_commit_5 : decode cX12_commit 5 = .ok (.ifCond .eq 51, 3) := by decide +kernel
theorem dX12_commit_8 : decode cX12_commit 8 = .ok (.iload_n 2, 1) := by decide +kernel
theorem dX12_commit_9 : decode cX12_commit 9 = .ok (.i2l, 1) := by decide +kernel
theorem dX12_commit_10 : decode cX12_commit 10 = .ok (.lconst 1, 1) := by decide +kernel
theorem dX12_commit_11 : decode cX12_commit 11 = .ok (.ldc2_w 350, 3) := by decide +kernel
theorem dX12_commit_14 : decode cX12_commit 14 = .ok (.invokestatic 142, 3) := by decide +kernel
theorem dX12_commit_17 : decode cX12_commit 17 = .ok (.ifCond .eq 39, 3) := by decide +kernel
theorem dX12_commit_20 : decode cX12_commit 20 = .ok (.iload_n 3, 1) := by decide +kernel
theorem dX12_commit_21 : decode cX12_commit 21 = .ok (.i2l, 1) := by decide +kernel
theorem dX12_commit_22 : decode cX12_commit 22 = .ok (.lconst 1, 1) := by decide +kernel
theorem dX12_commit_23 : decode cX12_commit 23 = .ok (.ldc2_w 350, 3) := by decide +kernel
theorem dX12_commit_26 : decode cX12_commit 26 = .ok (.invokestatic 142, 3) := by decide +kernel
theorem dX12_commit_29 : decode cX12_commit 29 = .ok (.ifCond .eq 27, 3) := by decide +kernel
theorem dX12_commit_32 : decode cX12_commit 32 = .ok (.iload 4, 2) := by decide +kernel
theorem dX12_commit_34 : decode cX12_commit 34 = .ok (.i2l, 1) := by decide +kernel
theorem dX12_commit_35 : decode cX12_commit 35 = .ok (.lconst 1, 1) := by decide +kernel
theorem dX12_commit_36 : decode cX12_commit 36 = .ok (.ldc2_w 453, 3) := by decide +kernel
theorem dX12_commit_39 : decode cX12_commit 39 = .ok (.invokestatic 142, 3) := by decide +kernel
theorem dX12_commit_42 : decode cX12_commit 42 = .ok (.ifCond .eq 14, 3) := by decide +kernel
theorem dX12_commit_45 : decode cX12_commit 45 = .ok (.iload 5, 2) := by decide +kernel
theorem dX12_commit_47 : decode cX12_commit 47 = .ok (.i2l, 1) := by decide +kernel
theorem dX12_commit_48 : decode cX12_commit 48 = .ok (.lconst 0, 1) := by decide +kernel
theorem dX12_commit_49 : decode cX12_commit 49 = .ok (.lconst 1, 1) := by decide +kernel
theorem dX12_commit_50 : decode cX12_commit 50 = .ok (.invokestatic 142, 3) := by decide +kernel
theorem dX12_commit_53 : decode cX12_commit 53 = .ok (.ifCond .ne 5, 3) := by decide +kernel
theorem dX12_commit_56 : decode cX12_commit 56 = .ok (.iconst (-1), 1) := by decide +kernel
theorem dX12_commit_57 : decode cX12_commit 57 = .ok (.ireturn, 1) := by decide +kernel
theorem dX12_commit_58 : decode cX12_commit 58 = .ok (.iconst (-1), 1) := by decide +kernel
theorem dX12_commit_59 : decode cX12_commit 59 = .ok (.istore 6, 2) := by decide +kernel
theorem dX12_commit_61 : decode cX12_commit 61 = .ok (.iconst 0, 1) := by decide +kernel
theorem dX12_commit_62 : decode cX12_commit 62 = .ok (.istore 7, 2) := by decide +kernel
theorem dX12_commit_64 : decode cX12_commit 64 = .ok (.aload_n 0, 1) := by decide +kernel
theorem dX12_commit_65 : decode cX12_commit 65 = .ok (.getfield 39, 3) := by decide +kernel
theorem dX12_commit_68 : decode cX12_commit 68 = .ok (.iconst 4, 1) := by decide +kernel
theorem dX12_commit_69 : decode cX12_commit 69 = .ok (.iaload, 1) := by decide +kernel
theorem dX12_commit_70 : decode cX12_commit 70 = .ok (.istore 8, 2) := by decide +kernel
theorem dX12_commit_72 : decode cX12_commit 72 = .ok (.iload 8, 2) := by decide +kernel
theorem dX12_commit_74 : decode cX12_commit 74 = .ok (.aload_n 0, 1) := by decide +kernel
theorem dX12_commit_75 : decode cX12_commit 75 = .ok (.getfield 39, 3) := by decide +kernel
theorem dX12_commit_78 : decode cX12_commit 78 = .ok (.iconst 4, 1) := by decide +kernel
theorem dX12_commit_79 : decode cX12_commit 79 = .ok (.iaload, 1) := by decide +kernel
theorem dX12_commit_80 : decode cX12_commit 80 = .ok (.iload 4, 2) := by decide +kernel
theorem dX12_commit_82 : decode cX12_commit 82 = .ok (.iadd, 1) := by decide +kernel
theorem dX12_commit_83 : decode cX12_commit 83 = .ok (.if_icmp .ge 43, 3) := by decide +kernel
theorem dX12_commit_86 : decode cX12_commit 86 = .ok (.aload_n 0, 1) := by decide +kernel
theorem dX12_commit_87 : decode cX12_commit 87 = .ok (.iload_n 1, 1) := by decide +kernel
theorem dX12_commit_88 : decode cX12_commit 88 = .ok (.iload_n 2, 1) := by decide +kernel
theorem dX12_commit_89 : decode cX12_commit 89 = .ok (.iload_n 3, 1) := by decide +kernel
theorem dX12_commit_90 : decode cX12_commit 90 = .ok (.iload 8, 2) := by decide +kernel
theorem dX12_commit_92 : decode cX12_commit 92 = .ok (.invokevirtual 455, 3) := by decide +kernel
theorem dX12_commit_95 : decode cX12_commit 95 = .ok (.istore 9, 2) := by decide +kernel
theorem dX12_commit_97 : decode cX12_commit 97 = .ok (.iload 6, 2) := by decide +kernel
theorem dX12_commit_99 : decode cX12_commit 99 = .ok (.ifCond .lt 13, 3) := by decide +kernel
theorem dX12_commit_102 : decode cX12_commit 102 = .ok (.iload 9, 2) := by decide +kernel
theorem dX12_commit_104 : decode cX12_commit 104 = .ok (.iload 7, 2) := by decide +kernel
theorem dX12_commit_106 : decode cX12_commit 106 = .ok (.if_icmp .lt 6, 3) := by decide +kernel
theorem dX12_commit_109 : decode cX12_commit 109 = .ok (.goto 11, 3) := by decide +kernel
theorem dX12_commit_112 : decode cX12_commit 112 = .ok (.iload 8, 2) := by decide +kernel
theorem dX12_commit_114 : decode cX12_commit 114 = .ok (.istore 6, 2) := by decide +kernel
theorem dX12_commit_116 : decode cX12_commit 116 = .ok (.iload 9, 2) := by decide +kernel
theorem dX12_commit_118 : decode cX12_commit 118 = .ok (.istore 7, 2) := by decide +kernel
theorem dX12_commit_120 : decode cX12_commit 120 = .ok (.iinc 8 1, 3) := by decide +kernel
theorem dX12_commit_123 : decode cX12_commit 123 = .ok (.goto (-51), 3) := by decide +kernel
theorem dX12_commit_126 : decode cX12_commit 126 = .ok (.iload 5, 2) := by decide +kernel
theorem dX12_commit_128 : decode cX12_commit 128 = .ok (.ifCond .ne 8, 3) := by decide +kernel
theorem dX12_commit_131 : decode cX12_commit 131 = .ok (.iload 6, 2) := by decide +kernel
theorem dX12_commit_133 : decode cX12_commit 133 = .ok (.goto 5, 3) := by decide +kernel
theorem dX12_commit_136 : decode cX12_commit 136 = .ok (.iload 7, 2) := by decide +kernel
theorem dX12_commit_138 : decode cX12_commit 138 = .ok (.ireturn, 1) := by decide +kernel
theorem dX12_isTried_0 : decode cX12_isTried 0 = .ok (.aload_n 0, 1) := by decide +kernel
theorem dX12_isTried_1 : decode cX12_isTried 1 = .ok (.getfield 39, 3) := by decide +kernel
theorem dX12_isTried_4 : decode cX12_isTried 4 = .ok (.iconst 4, 1) := by decide +kernel
theorem dX12_isTried_5 : decode cX12_isTried 5 = .ok (.iaload, 1) := by decide +kernel
theorem dX12_isTried_6 : decode cX12_isTried 6 = .ok (.istore_n 3, 1) := by decide +kernel
theorem dX12_isTried_7 : decode cX12_isTried 7 = .ok (.iload_n 3, 1) := by decide +kernel
theorem dX12_isTried_8 : decode cX12_isTried 8 = .ok (.aload_n 0, 1) := by decide +kernel
theorem dX12_isTried_9 : decode cX12_isTried 9 = .ok (.getfield 39, 3) := by decide +kernel
theorem dX12_isTried_12 : decode cX12_isTried 12 = .ok (.iconst 4, 1) := by decide +kernel
theorem dX12_isTried_13 : decode cX12_isTried 13 = .ok (.iaload, 1) := by decide +kernel
theorem dX12_isTried_14 : decode cX12_isTried 14 = .ok (.iload_n 2, 1) := by decide +kernel
theorem dX12_isTried_15 : decode cX12_isTried 15 = .ok (.iadd, 1) := by decide +kernel
theorem dX12_isTried_16 : decode cX12_isTried 16 = .ok (.if_icmp .ge 43, 3) := by decide +kernel
theorem dX12_isTried_19 : decode cX12_isTried 19 = .ok (.iconst 0, 1) := by decide +kernel
theorem dX12_isTried_20 : decode cX12_isTried 20 = .ok (.istore 4, 2) := by decide +kernel
theorem dX12_isTried_22 : decode cX12_isTried 22 = .ok (.iload 4, 2) := by decide +kernel
theorem dX12_isTried_24 : decode cX12_isTried 24 = .ok (.aload_n 0, 1) := by decide +kernel
theorem dX12_isTried_25 : decode cX12_isTried 25 = .ok (.getfield 39, 3) := by decide +kernel
theorem dX12_isTried_28 : decode cX12_isTried 28 = .ok (.iconst 2, 1) := by decide +kernel
theorem dX12_isTried_29 : decode cX12_isTried 29 = .ok (.iaload, 1) := by decide +kernel
theorem dX12_isTried_30 : decode cX12_isTried 30 = .ok (.if_icmp .ge 23, 3) := by decide +kernel
theorem dX12_isTried_33 : decode cX12_isTried 33 = .ok (.aload_n 0, 1) := by decide +kernel
theorem dX12_isTried_34 : decode cX12_isTried 34 = .ok (.iload 4, 2) := by decide +kernel
theorem dX12_isTried_36 : decode cX12_isTried 36 = .ok (.iload_n 1, 1) := by decide +kernel
theorem dX12_isTried_37 : decode cX12_isTried 37 = .ok (.iconst 1, 1) := by decide +kernel
theorem dX12_isTried_38 : decode cX12_isTried 38 = .ok (.iload_n 3, 1) := by decide +kernel
theorem dX12_isTried_39 : decode cX12_isTried 39 = .ok (.invokevirtual 334, 3) := by decide +kernel
theorem dX12_isTried_42 : decode cX12_isTried 42 = .ok (.ifCond .eq 5, 3) := by decide +kernel
theorem dX12_isTried_45 : decode cX12_isTried 45 = .ok (.iconst 1, 1) := by decide +kernel
theorem dX12_isTried_46 : decode cX12_isTried 46 = .ok (.ireturn, 1) := by decide +kernel
theorem dX12_isTried_47 : decode cX12_isTried 47 = .ok (.iinc 4 1, 3) := by decide +kernel
theorem dX12_isTried_50 : decode cX12_isTried 50 = .ok (.goto (-28), 3) := by decide +kernel
theorem dX12_isTried_53 : decode cX12_isTried 53 = .ok (.iinc 3 1, 3) := by decide +kernel
theorem dX12_isTried_56 : decode cX12_isTried 56 = .ok (.goto (-49), 3) := by decide +kernel
theorem dX12_isTried_59 : decode cX12_isTried 59 = .ok (.iconst 0, 1) := by decide +kernel
theorem dX12_isTried_60 : decode cX12_isTried 60 = .ok (.ireturn, 1) := by decide +kernel
theorem dX12_above_0 : decode cX12_above 0 = .ok (.aload_n 0, 1) := by decide +kernel
theorem dX12_above_1 : decode cX12_above 1 = .ok (.invokevirtual 380, 3) := by decide +kernel
theorem dX12_above_4 : decode cX12_above 4 = .ok (.ifCond .eq 15, 3) := by decide +kernel
theorem dX12_above_7 : decode cX12_above 7 = .ok (.iload_n 1, 1) := by decide +kernel
theorem dX12_above_8 : decode cX12_above 8 = .ok (.i2l, 1) := by decide +kernel
theorem dX12_above_9 : decode cX12_above 9 = .ok (.lconst 1, 1) := by decide +kernel
theorem dX12_above_10 : decode cX12_above 10 = .ok (.ldc2_w 453, 3) := by decide +kernel
theorem dX12_above_13 : decode cX12_above 13 = .ok (.invokestatic 142, 3) := by decide +kernel
theorem dX12_above_16 : decode cX12_above 16 = .ok (.ifCond .ne 5, 3) := by decide +kernel
theorem dX12_above_19 : decode cX12_above 19 = .ok (.iconst (-1), 1) := by decide +kernel
theorem dX12_above_20 : decode cX12_above 20 = .ok (.ireturn, 1) := by decide +kernel
theorem dX12_above_21 : decode cX12_above 21 = .ok (.iconst 0, 1) := by decide +kernel
theorem dX12_above_22 : decode cX12_above 22 = .ok (.istore_n 2, 1) := by decide +kernel
theorem dX12_above_23 : decode cX12_above 23 = .ok (.iconst 0, 1) := by decide +kernel
theorem dX12_above_24 : decode cX12_above 24 = .ok (.istore_n 3, 1) := by decide +kernel
theorem dX12_above_25 : decode cX12_above 25 = .ok (.iload_n 3, 1) := by decide +kernel
theorem dX12_above_26 : decode cX12_above 26 = .ok (.aload_n 0, 1) := by decide +kernel
theorem dX12_above_27 : decode cX12_above 27 = .ok (.getfield 39, 3) := by decide +kernel
theorem dX12_above_30 : decode cX12_above 30 = .ok (.iconst 2, 1) := by decide +kernel
theorem dX12_above_31 : decode cX12_above 31 = .ok (.iaload, 1) := by decide +kernel
theorem dX12_above_32 : decode cX12_above 32 = .ok (.if_icmp .ge 28, 3) := by decide +kernel
theorem dX12_above_35 : decode cX12_above 35 = .ok (.iload_n 2, 1) := by decide +kernel
theorem dX12_above_36 : decode cX12_above 36 = .ok (.aload_n 0, 1) := by decide +kernel
theorem dX12_above_37 : decode cX12_above 37 = .ok (.iload_n 3, 1) := by decide +kernel
theorem dX12_above_38 : decode cX12_above 38 = .ok (.iload_n 1, 1) := by decide +kernel
theorem dX12_above_39 : decode cX12_above 39 = .ok (.invokevirtual 459, 3) := by decide +kernel
theorem dX12_above_42 : decode cX12_above 42 = .ok (.ifCond .eq 7, 3) := by decide +kernel
theorem dX12_above_45 : decode cX12_above 45 = .ok (.iconst 0, 1) := by decide +kernel
theorem dX12_above_46 : decode cX12_above 46 = .ok (.goto 6, 3) := by decide +kernel
theorem dX12_above_49 : decode cX12_above 49 = .ok (.iconst 1, 1) := by decide +kernel
theorem dX12_above_50 : decode cX12_above 50 = .ok (.iload_n 3, 1) := by decide +kernel
theorem dX12_above_51 : decode cX12_above 51 = .ok (.ishl, 1) := by decide +kernel
theorem dX12_above_52 : decode cX12_above 52 = .ok (.ior, 1) := by decide +kernel
theorem dX12_above_53 : decode cX12_above 53 = .ok (.istore_n 2, 1) := by decide +kernel
theorem dX12_above_54 : decode cX12_above 54 = .ok (.iinc 3 1, 3) := by decide +kernel
theorem dX12_above_57 : decode cX12_above 57 = .ok (.goto (-32), 3) := by decide +kernel
theorem dX12_above_60 : decode cX12_above 60 = .ok (.iload_n 2, 1) := by decide +kernel
theorem dX12_above_61 : decode cX12_above 61 = .ok (.ireturn, 1) := by decide +kernel
theorem dX12_clement_0 : decode cX12_clement 0 = .ok (.aload_n 0, 1) := by decide +kernel
theorem dX12_clement_1 : decode cX12_clement 1 = .ok (.iload_n 1, 1) := by decide +kernel
theorem dX12_clement_2 : decode cX12_clement 2 = .ok (.invokevirtual 347, 3) := by decide +kernel
theorem dX12_clement_5 : decode cX12_clement 5 = .ok (.ifCond .eq 15, 3) := by decide +kernel
theorem dX12_clement_8 : decode cX12_clement 8 = .ok (.iload_n 2, 1) := by decide +kernel
theorem dX12_clement_9 : decode cX12_clement 9 = .ok (.i2l, 1) := by decide +kernel
theorem dX12_clement_10 : decode cX12_clement 10 = .ok (.lconst 0, 1) := by decide +kernel
theorem dX12_clement_11 : decode cX12_clement 11 = .ok (.ldc2_w 462, 3) := by decide +kernel
theorem dX12_clement_14 : decode cX12_clement 14 = .ok (.invokestatic 142, 3) := by decide +kernel
theorem dX12_clement_17 : decode cX12_clement 17 = .ok (.ifCond .ne 5, 3) := by decide +kernel
theorem dX12_clement_20 : decode cX12_clement 20 = .ok (.iconst (-1), 1) := by decide +kernel
theorem dX12_clement_21 : decode cX12_clement 21 = .ok (.ireturn, 1) := by decide +kernel
theorem dX12_clement_22 : decode cX12_clement 22 = .ok (.bipush (-2), 2) := by decide +kernel
theorem dX12_clement_24 : decode cX12_clement 24 = .ok (.istore_n 3, 1) := by decide +kernel
theorem dX12_clement_25 : decode cX12_clement 25 = .ok (.bipush (-2), 2) := by decide +kernel
theorem dX12_clement_27 : decode cX12_clement 27 = .ok (.istore 4, 2) := by decide +kernel
theorem dX12_clement_29 : decode cX12_clement 29 = .ok (.iconst 0, 1) := by decide +kernel
theorem dX12_clement_30 : decode cX12_clement 30 = .ok (.istore 5, 2) := by decide +kernel
theorem dX12_clement_32 : decode cX12_clement 32 = .ok (.iload 5, 2) := by decide +kernel
theorem dX12_clement_34 : decode cX12_clement 34 = .ok (.aload_n 0, 1) := by decide +kernel
theorem dX12_clement_35 : decode cX12_clement 35 = .ok (.getfield 39, 3) := by decide +kernel
theorem dX12_clement_38 : decode cX12_clement 38 = .ok (.iconst 2, 1) := by decide +kernel
theorem dX12_clement_39 : decode cX12_clement 39 = .ok (.iaload, 1) := by decide +kernel
theorem dX12_clement_40 : decode cX12_clement 40 = .ok (.if_icmp .ge 94, 3) := by decide +kernel
theorem dX12_clement_43 : decode cX12_clement 43 = .ok (.aload_n 0, 1) := by decide +kernel
theorem dX12_clement_44 : decode cX12_clement 44 = .ok (.iload_n 1, 1) := by decide +kernel
theorem dX12_clement_45 : decode cX12_clement 45 = .ok (.iload 5, 2) := by decide +kernel
theorem dX12_clement_47 : decode cX12_clement 47 = .ok (.aload_n 0, 1) := by decide +kernel
theorem dX12_clement_48 : decode cX12_clement 48 = .ok (.getfield 39, 3) := by decide +kernel
theorem dX12_clement_51 : decode cX12_clement 51 = .ok (.iconst 4, 1) := by decide +kernel
theorem dX12_clement_52 : decode cX12_clement 52 = .ok (.iaload, 1) := by decide +kernel
theorem dX12_clement_53 : decode cX12_clement 53 = .ok (.invokevirtual 354, 3) := by decide +kernel
theorem dX12_clement_56 : decode cX12_clement 56 = .ok (.ifCond .ne 6, 3) := by decide +kernel
theorem dX12_clement_59 : decode cX12_clement 59 = .ok (.goto 69, 3) := by decide +kernel
theorem dX12_clement_62 : decode cX12_clement 62 = .ok (.aload_n 0, 1) := by decide +kernel
theorem dX12_clement_63 : decode cX12_clement 63 = .ok (.iload_n 1, 1) := by decide +kernel
theorem dX12_clement_64 : decode cX12_clement 64 = .ok (.iload 5, 2) := by decide +kernel
theorem dX12_clement_66 : decode cX12_clement 66 = .ok (.aload_n 0, 1) := by decide +kernel
theorem dX12_clement_67 : decode cX12_clement 67 = .ok (.getfield 39, 3) := by decide +kernel
theorem dX12_clement_70 : decode cX12_clement 70 = .ok (.iconst 4, 1) := by decide +kernel
theorem dX12_clement_71 : decode cX12_clement 71 = .ok (.iaload, 1) := by decide +kernel
theorem dX12_clement_72 : decode cX12_clement 72 = .ok (.invokevirtual 373, 3) := by decide +kernel
theorem dX12_clement_75 : decode cX12_clement 75 = .ok (.istore 6, 2) := by decide +kernel
theorem dX12_clement_77 : decode cX12_clement 77 = .ok (.iload_n 3, 1) := by decide +kernel
theorem dX12_clement_78 : decode cX12_clement 78 = .ok (.ifCond .lt 20, 3) := by decide +kernel
theorem dX12_clement_81 : decode cX12_clement 81 = .ok (.iload 6, 2) := by decide +kernel
theorem dX12_clement_83 : decode cX12_clement 83 = .ok (.aload_n 0, 1) := by decide +kernel
theorem dX12_clement_84 : decode cX12_clement 84 = .ok (.iload_n 1, 1) := by decide +kernel
theorem dX12_clement_85 : decode cX12_clement 85 = .ok (.iload_n 3, 1) := by decide +kernel
theorem dX12_clement_86 : decode cX12_clement 86 = .ok (.aload_n 0, 1) := by decide +kernel
theorem dX12_clement_87 : decode cX12_clement 87 = .ok (.getfield 39, 3) := by decide +kernel
theorem dX12_clement_90 : decode cX12_clement 90 = .ok (.iconst 4, 1) := by decide +kernel
theorem dX12_clement_91 : decode cX12_clement 91 = .ok (.iaload, 1) := by decide +kernel
theorem dX12_clement_92 : decode cX12_clement 92 = .ok (.invokevirtual 373, 3) := by decide +kernel
theorem dX12_clement_95 : decode cX12_clement 95 = .ok (.if_icmp .ge 6, 3) := by decide +kernel
theorem dX12_clement_98 : decode cX12_clement 98 = .ok (.iload 5, 2) := by decide +kernel
theorem dX12_clement_100 : decode cX12_clement 100 = .ok (.istore_n 3, 1) := by decide +kernel
theorem dX12_clement_101 : decode cX12_clement 101 = .ok (.iload 4, 2) := by decide +kernel
theorem dX12_clement_103 : decode cX12_clement 103 = .ok (.ifCond .lt 21, 3) := by decide +kernel
theorem dX12_clement_106 : decode cX12_clement 106 = .ok (.iload 6, 2) := by decide +kernel
theorem dX12_clement_108 : decode cX12_clement 108 = .ok (.aload_n 0, 1) := by decide +kernel
theorem dX12_clement_109 : decode cX12_clement 109 = .ok (.iload_n 1, 1) := by decide +kernel
theorem dX12_clement_110 : decode cX12_clement 110 = .ok (.iload 4, 2) := by decide +kernel
theorem dX12_clement_112 : decode cX12_clement 112 = .ok (.aload_n 0, 1) := by decide +kernel
theorem dX12_clement_113 : decode cX12_clement 113 = .ok (.getfield 39, 3) := by decide +kernel
theorem dX12_clement_116 : decode cX12_clement 116 = .ok (.iconst 4, 1) := by decide +kernel
theorem dX12_clement_117 : decode cX12_clement 117 = .ok (.iaload, 1) := by decide +kernel
theorem dX12_clement_118 : decode cX12_clement 118 = .ok (.invokevirtual 373, 3) := by decide +kernel
theorem dX12_clement_121 : decode cX12_clement 121 = .ok (.if_icmp .le 7, 3) := by decide +kernel
theorem dX12_clement_124 : decode cX12_clement 124 = .ok (.iload 5, 2) := by decide +kernel
theorem dX12_clement_126 : decode cX12_clement 126 = .ok (.istore 4, 2) := by decide +kernel
theorem dX12_clement_128 : decode cX12_clement 128 = .ok (.iinc 5 1, 3) := by decide +kernel
theorem dX12_clement_131 : decode cX12_clement 131 = .ok (.goto (-99), 3) := by decide +kernel
theorem dX12_clement_134 : decode cX12_clement 134 = .ok (.iload_n 3, 1) := by decide +kernel
theorem dX12_clement_135 : decode cX12_clement 135 = .ok (.ifCond .lt 7, 3) := by decide +kernel
theorem dX12_clement_138 : decode cX12_clement 138 = .ok (.iload_n 2, 1) := by decide +kernel
theorem dX12_clement_139 : decode cX12_clement 139 = .ok (.ifCond .ne 5, 3) := by decide +kernel
theorem dX12_clement_142 : decode cX12_clement 142 = .ok (.iload_n 3, 1) := by decide +kernel
theorem dX12_clement_143 : decode cX12_clement 143 = .ok (.ireturn, 1) := by decide +kernel
theorem dX12_clement_144 : decode cX12_clement 144 = .ok (.iload_n 2, 1) := by decide +kernel
theorem dX12_clement_145 : decode cX12_clement 145 = .ok (.iconst 1, 1) := by decide +kernel
theorem dX12_clement_146 : decode cX12_clement 146 = .ok (.if_icmp .ne 18, 3) := by decide +kernel
theorem dX12_clement_149 : decode cX12_clement 149 = .ok (.aload_n 0, 1) := by decide +kernel
theorem dX12_clement_150 : decode cX12_clement 150 = .ok (.iload_n 1, 1) := by decide +kernel
theorem dX12_clement_151 : decode cX12_clement 151 = .ok (.iload_n 3, 1) := by decide +kernel
theorem dX12_clement_152 : decode cX12_clement 152 = .ok (.aload_n 0, 1) := by decide +kernel
theorem dX12_clement_153 : decode cX12_clement 153 = .ok (.getfield 39, 3) := by decide +kernel
theorem dX12_clement_156 : decode cX12_clement 156 = .ok (.iconst 4, 1) := by decide +kernel
theorem dX12_clement_157 : decode cX12_clement 157 = .ok (.iaload, 1) := by decide +kernel
theorem dX12_clement_158 : decode cX12_clement 158 = .ok (.invokevirtual 373, 3) := by decide +kernel
theorem dX12_clement_161 : decode cX12_clement 161 = .ok (.goto 26, 3) := by decide +kernel
theorem dX12_clement_164 : decode cX12_clement 164 = .ok (.iload_n 2, 1) := by decide +kernel
theorem dX12_clement_165 : decode cX12_clement 165 = .ok (.iconst 2, 1) := by decide +kernel
theorem dX12_clement_166 : decode cX12_clement 166 = .ok (.if_icmp .ne 8, 3) := by decide +kernel
theorem dX12_clement_169 : decode cX12_clement 169 = .ok (.iload 4, 2) := by decide +kernel
theorem dX12_clement_171 : decode cX12_clement 171 = .ok (.goto 16, 3) := by decide +kernel
theorem dX12_clement_174 : decode cX12_clement 174 = .ok (.aload_n 0, 1) := by decide +kernel
theorem dX12_clement_175 : decode cX12_clement 175 = .ok (.iload_n 1, 1) := by decide +kernel
theorem dX12_clement_176 : decode cX12_clement 176 = .ok (.iload 4, 2) := by decide +kernel
theorem dX12_clement_178 : decode cX12_clement 178 = .ok (.aload_n 0, 1) := by decide +kernel
theorem dX12_clement_179 : decode cX12_clement 179 = .ok (.getfield 39, 3) := by decide +kernel
theorem dX12_clement_182 : decode cX12_clement 182 = .ok (.iconst 4, 1) := by decide +kernel
theorem dX12_clement_183 : decode cX12_clement 183 = .ok (.iaload, 1) := by decide +kernel
theorem dX12_clement_184 : decode cX12_clement 184 = .ok (.invokevirtual 373, 3) := by decide +kernel
theorem dX12_clement_187 : decode cX12_clement 187 = .ok (.ireturn, 1) := by decide +kernel
theorem dX12_fact__0 : decode cX12_fact_ 0 = .ok (.iload_n 1, 1) := by decide +kernel
theorem dX12_fact__1 : decode cX12_fact_ 1 = .ok (.iconst (-1), 1) := by decide +kernel
theorem dX12_fact__2 : decode cX12_fact_ 2 = .ok (.if_icmp .ne 14, 3) := by decide +kernel
theorem dX12_fact__5 : decode cX12_fact_ 5 = .ok (.aload_n 0, 1) := by decide +kernel
theorem dX12_fact__6 : decode cX12_fact_ 6 = .ok (.getfield 39, 3) := by decide +kernel
theorem dX12_fact__9 : decode cX12_fact_ 9 = .ok (.sipush 141, 3) := by decide +kernel
theorem dX12_fact__12 : decode cX12_fact_ 12 = .ok (.iconst 0, 1) := by decide +kernel
theorem dX12_fact__13 : decode cX12_fact_ 13 = .ok (.iastore, 1) := by decide +kernel
theorem dX12_fact__14 : decode cX12_fact_ 14 = .ok (.iconst 0, 1) := by decide +kernel
theorem dX12_fact__15 : decode cX12_fact_ 15 = .ok (.ireturn, 1) := by decide +kernel
theorem dX12_fact__16 : decode cX12_fact_ 16 = .ok (.aload_n 0, 1) := by decide +kernel
theorem dX12_fact__17 : decode cX12_fact_ 17 = .ok (.iload_n 1, 1) := by decide +kernel
theorem dX12_fact__18 : decode cX12_fact_ 18 = .ok (.invokevirtual 347, 3) := by decide +kernel
theorem dX12_fact__21 : decode cX12_fact_ 21 = .ok (.ifCond .eq 40, 3) := by decide +kernel
theorem dX12_fact__24 : decode cX12_fact_ 24 = .ok (.iload_n 2, 1) := by decide +kernel
theorem dX12_fact__25 : decode cX12_fact_ 25 = .ok (.i2l, 1) := by decide +kernel
theorem dX12_fact__26 : decode cX12_fact_ 26 = .ok (.lconst 0, 1) := by decide +kernel
theorem dX12_fact__27 : decode cX12_fact_ 27 = .ok (.ldc2_w 445, 3) := by decide +kernel
theorem dX12_fact__30 : decode cX12_fact_ 30 = .ok (.invokestatic 142, 3) := by decide +kernel
theorem dX12_fact__33 : decode cX12_fact_ 33 = .ok (.ifCond .eq 28, 3) := by decide +kernel
theorem dX12_fact__36 : decode cX12_fact_ 36 = .ok (.iload_n 3, 1) := by decide +kernel
theorem dX12_fact__37 : decode cX12_fact_ 37 = .ok (.i2l, 1) := by decide +kernel
theorem dX12_fact__38 : decode cX12_fact_ 38 = .ok (.lconst 0, 1) := by decide +kernel
theorem dX12_fact__39 : decode cX12_fact_ 39 = .ok (.ldc2_w 464, 3) := by decide +kernel
theorem dX12_fact__42 : decode cX12_fact_ 42 = .ok (.invokestatic 142, 3) := by decide +kernel
theorem dX12_fact__45 : decode cX12_fact_ 45 = .ok (.ifCond .eq 16, 3) := by decide +kernel
theorem dX12_fact__48 : decode cX12_fact_ 48 = .ok (.aload_n 0, 1) := by decide +kernel
theorem dX12_fact__49 : decode cX12_fact_ 49 = .ok (.getfield 39, 3) := by decide +kernel
theorem dX12_fact__52 : decode cX12_fact_ 52 = .ok (.sipush 141, 3) := by decide +kernel
theorem dX12_fact__55 : decode cX12_fact_ 55 = .ok (.iaload, 1) := by decide +kernel
theorem dX12_fact__56 : decode cX12_fact_ 56 = .ok (.bipush 10, 2) := by decide +kernel
theorem dX12_fact__58 : decode cX12_fact_ 58 = .ok (.if_icmp .ne 6, 3) := by decide +kernel
theorem dX12_fact__61 : decode cX12_fact_ 61 = .ok (.bipush (-2), 2) := by decide +kernel
theorem dX12_fact__63 : decode cX12_fact_ 63 = .ok (.ireturn, 1) := by decide +kernel
theorem dX12_fact__64 : decode cX12_fact_ 64 = .ok (.bipush 111, 2) := by decide +kernel
theorem dX12_fact__66 : decode cX12_fact_ 66 = .ok (.iconst 3, 1) := by decide +kernel
theorem dX12_fact__67 : decode cX12_fact_ 67 = .ok (.aload_n 0, 1) := by decide +kernel
theorem dX12_fact__68 : decode cX12_fact_ 68 = .ok (.getfield 39, 3) := by decide +kernel
theorem dX12_fact__71 : decode cX12_fact_ 71 = .ok (.sipush 141, 3) := by decide +kernel
theorem dX12_fact__74 : decode cX12_fact_ 74 = .ok (.iaload, 1) := by decide +kernel
theorem dX12_fact__75 : decode cX12_fact_ 75 = .ok (.imul, 1) := by decide +kernel
theorem dX12_fact__76 : decode cX12_fact_ 76 = .ok (.iadd, 1) := by decide +kernel
theorem dX12_fact__77 : decode cX12_fact_ 77 = .ok (.istore 4, 2) := by decide +kernel
theorem dX12_fact__79 : decode cX12_fact_ 79 = .ok (.aload_n 0, 1) := by decide +kernel
theorem dX12_fact__80 : decode cX12_fact_ 80 = .ok (.getfield 39, 3) := by decide +kernel
theorem dX12_fact__83 : decode cX12_fact_ 83 = .ok (.iload 4, 2) := by decide +kernel
theorem dX12_fact__85 : decode cX12_fact_ 85 = .ok (.iload_n 1, 1) := by decide +kernel
theorem dX12_fact__86 : decode cX12_fact_ 86 = .ok (.iastore, 1) := by decide +kernel
theorem dX12_fact__87 : decode cX12_fact_ 87 = .ok (.aload_n 0, 1) := by decide +kernel
theorem dX12_fact__88 : decode cX12_fact_ 88 = .ok (.getfield 39, 3) := by decide +kernel
theorem dX12_fact__91 : decode cX12_fact_ 91 = .ok (.iload 4, 2) := by decide +kernel
theorem dX12_fact__93 : decode cX12_fact_ 93 = .ok (.iconst 1, 1) := by decide +kernel
theorem dX12_fact__94 : decode cX12_fact_ 94 = .ok (.iadd, 1) := by decide +kernel
theorem dX12_fact__95 : decode cX12_fact_ 95 = .ok (.iload_n 2, 1) := by decide +kernel
theorem dX12_fact__96 : decode cX12_fact_ 96 = .ok (.iastore, 1) := by decide +kernel
theorem dX12_fact__97 : decode cX12_fact_ 97 = .ok (.aload_n 0, 1) := by decide +kernel
theorem dX12_fact__98 : decode cX12_fact_ 98 = .ok (.getfield 39, 3) := by decide +kernel
theorem dX12_fact__101 : decode cX12_fact_ 101 = .ok (.iload 4, 2) := by decide +kernel
theorem dX12_fact__103 : decode cX12_fact_ 103 = .ok (.iconst 2, 1) := by decide +kernel
theorem dX12_fact__104 : decode cX12_fact_ 104 = .ok (.iadd, 1) := by decide +kernel
theorem dX12_fact__105 : decode cX12_fact_ 105 = .ok (.iload_n 3, 1) := by decide +kernel
theorem dX12_fact__106 : decode cX12_fact_ 106 = .ok (.iastore, 1) := by decide +kernel
theorem dX12_fact__107 : decode cX12_fact_ 107 = .ok (.aload_n 0, 1) := by decide +kernel
theorem dX12_fact__108 : decode cX12_fact_ 108 = .ok (.getfield 39, 3) := by decide +kernel
theorem dX12_fact__111 : decode cX12_fact_ 111 = .ok (.sipush 141, 3) := by decide +kernel
theorem dX12_fact__114 : decode cX12_fact_ 114 = .ok (.dup2, 1) := by decide +kernel
theorem dX12_fact__115 : decode cX12_fact_ 115 = .ok (.iaload, 1) := by decide +kernel
theorem dX12_fact__116 : decode cX12_fact_ 116 = .ok (.iconst 1, 1) := by decide +kernel
theorem dX12_fact__117 : decode cX12_fact_ 117 = .ok (.iadd, 1) := by decide +kernel
theorem dX12_fact__118 : decode cX12_fact_ 118 = .ok (.iastore, 1) := by decide +kernel
theorem dX12_fact__119 : decode cX12_fact_ 119 = .ok (.aload_n 0, 1) := by decide +kernel
theorem dX12_fact__120 : decode cX12_fact_ 120 = .ok (.getfield 39, 3) := by decide +kernel
theorem dX12_fact__123 : decode cX12_fact_ 123 = .ok (.sipush 141, 3) := by decide +kernel
theorem dX12_fact__126 : decode cX12_fact_ 126 = .ok (.iaload, 1) := by decide +kernel
theorem dX12_fact__127 : decode cX12_fact_ 127 = .ok (.ireturn, 1) := by decide +kernel
theorem dX12_rightThen_0 : decode cX12_rightThen 0 = .ok (.aload_n 0, 1) := by decide +kernel
theorem dX12_rightThen_1 : decode cX12_rightThen 1 = .ok (.iload_n 2, 1) := by decide +kernel
theorem dX12_rightThen_2 : decode cX12_rightThen 2 = .ok (.aload_n 0, 1) := by decide +kernel
theorem dX12_rightThen_3 : decode cX12_rightThen 3 = .ok (.iload_n 1, 1) := by decide +kernel
theorem dX12_rightThen_4 : decode cX12_rightThen 4 = .ok (.iconst 0, 1) := by decide +kernel
theorem dX12_rightThen_5 : decode cX12_rightThen 5 = .ok (.invokevirtual 331, 3) := by decide +kernel
theorem dX12_rightThen_8 : decode cX12_rightThen 8 = .ok (.aload_n 0, 1) := by decide +kernel
theorem dX12_rightThen_9 : decode cX12_rightThen 9 = .ok (.iload_n 1, 1) := by decide +kernel
theorem dX12_rightThen_10 : decode cX12_rightThen 10 = .ok (.iconst 1, 1) := by decide +kernel
theorem dX12_rightThen_11 : decode cX12_rightThen 11 = .ok (.invokevirtual 331, 3) := by decide +kernel
theorem dX12_rightThen_14 : decode cX12_rightThen 14 = .ok (.aload_n 0, 1) := by decide +kernel
theorem dX12_rightThen_15 : decode cX12_rightThen 15 = .ok (.iload_n 1, 1) := by decide +kernel
theorem dX12_rightThen_16 : decode cX12_rightThen 16 = .ok (.iconst 2, 1) := by decide +kernel
theorem dX12_rightThen_17 : decode cX12_rightThen 17 = .ok (.invokevirtual 331, 3) := by decide +kernel
theorem dX12_rightThen_20 : decode cX12_rightThen 20 = .ok (.iload_n 3, 1) := by decide +kernel
theorem dX12_rightThen_21 : decode cX12_rightThen 21 = .ok (.iconst 0, 1) := by decide +kernel
theorem dX12_rightThen_22 : decode cX12_rightThen 22 = .ok (.iconst 0, 1) := by decide +kernel
theorem dX12_rightThen_23 : decode cX12_rightThen 23 = .ok (.invokevirtual 369, 3) := by decide +kernel
theorem dX12_rightThen_26 : decode cX12_rightThen 26 = .ok (.ireturn, 1) := by decide +kernel
theorem dX12_factValue_0 : decode cX12_factValue 0 = .ok (.iload_n 1, 1) := by decide +kernel
theorem dX12_factValue_1 : decode cX12_factValue 1 = .ok (.iconst 2, 1) := by decide +kernel
theorem dX12_factValue_2 : decode cX12_factValue 2 = .ok (.if_icmp .ge 13, 3) := by decide +kernel
theorem dX12_factValue_5 : decode cX12_factValue 5 = .ok (.aload_n 0, 1) := by decide +kernel
theorem dX12_factValue_6 : decode cX12_factValue 6 = .ok (.iload_n 3, 1) := by decide +kernel
theorem dX12_factValue_7 : decode cX12_factValue 7 = .ok (.iload 4, 2) := by decide +kernel
theorem dX12_factValue_9 : decode cX12_factValue 9 = .ok (.invokevirtual 316, 3) := by decide +kernel
theorem dX12_factValue_12 : decode cX12_factValue 12 = .ok (.goto 36, 3) := by decide +kernel
theorem dX12_factValue_15 : decode cX12_factValue 15 = .ok (.iload_n 1, 1) := by decide +kernel
theorem dX12_factValue_16 : decode cX12_factValue 16 = .ok (.iconst 4, 1) := by decide +kernel
theorem dX12_factValue_17 : decode cX12_factValue 17 = .ok (.if_icmp .ge 12, 3) := by decide +kernel
theorem dX12_factValue_20 : decode cX12_factValue 20 = .ok (.aload_n 0, 1) := by decide +kernel
theorem dX12_factValue_21 : decode cX12_factValue 21 = .ok (.iload_n 3, 1) := by decide +kernel
theorem dX12_factValue_22 : decode cX12_factValue 22 = .ok (.iconst 1, 1) := by decide +kernel
theorem dX12_factValue_23 : decode cX12_factValue 23 = .ok (.invokevirtual 312, 3) := by decide +kernel
theorem dX12_factValue_26 : decode cX12_factValue 26 = .ok (.goto 22, 3) := by decide +kernel
theorem dX12_factValue_29 : decode cX12_factValue 29 = .ok (.iload_n 1, 1) := by decide +kernel
theorem dX12_factValue_30 : decode cX12_factValue 30 = .ok (.bipush 6, 2) := by decide +kernel
theorem dX12_factValue_32 : decode cX12_factValue 32 = .ok (.if_icmp .ge 8, 3) := by decide +kernel
theorem dX12_factValue_35 : decode cX12_factValue 35 = .ok (.iload 4, 2) := by decide +kernel
theorem dX12_factValue_37 : decode cX12_factValue 37 = .ok (.goto 11, 3) := by decide +kernel
theorem dX12_factValue_40 : decode cX12_factValue 40 = .ok (.aload_n 0, 1) := by decide +kernel
theorem dX12_factValue_41 : decode cX12_factValue 41 = .ok (.iload_n 2, 1) := by decide +kernel
theorem dX12_factValue_42 : decode cX12_factValue 42 = .ok (.iload_n 3, 1) := by decide +kernel
theorem dX12_factValue_43 : decode cX12_factValue 43 = .ok (.iload 4, 2) := by decide +kernel
theorem dX12_factValue_45 : decode cX12_factValue 45 = .ok (.invokevirtual 466, 3) := by decide +kernel
theorem dX12_factValue_48 : decode cX12_factValue 48 = .ok (.ireturn, 1) := by decide +kernel
theorem dX12_areFactsSo_0 : decode cX12_areFactsSo 0 = .ok (.iconst 0, 1) := by decide +kernel
theorem dX12_areFactsSo_1 : decode cX12_areFactsSo 1 = .ok (.istore 4, 2) := by decide +kernel
theorem dX12_areFactsSo_3 : decode cX12_areFactsSo 3 = .ok (.iload 4, 2) := by decide +kernel
theorem dX12_areFactsSo_5 : decode cX12_areFactsSo 5 = .ok (.aload_n 0, 1) := by decide +kernel
theorem dX12_areFactsSo_6 : decode cX12_areFactsSo 6 = .ok (.getfield 39, 3) := by decide +kernel
theorem dX12_areFactsSo_9 : decode cX12_areFactsSo 9 = .ok (.sipush 141, 3) := by decide +kernel
theorem dX12_areFactsSo_12 : decode cX12_areFactsSo 12 = .ok (.iaload, 1) := by decide +kernel
theorem dX12_areFactsSo_13 : decode cX12_areFactsSo 13 = .ok (.if_icmp .ge 97, 3) := by decide +kernel
theorem dX12_areFactsSo_16 : decode cX12_areFactsSo 16 = .ok (.bipush 111, 2) := by decide +kernel
theorem dX12_areFactsSo_18 : decode cX12_areFactsSo 18 = .ok (.iconst 3, 1) := by decide +kernel
theorem dX12_areFactsSo_19 : decode cX12_areFactsSo 19 = .ok (.iload 4, 2) := by decide +kernel
theorem dX12_areFactsSo_21 : decode cX12_areFactsSo 21 = .ok (.imul, 1) := by decide +kernel
theorem dX12_areFactsSo_22 : decode cX12_areFactsSo 22 = .ok (.iadd, 1) := by decide +kernel
theorem dX12_areFactsSo_23 : decode cX12_areFactsSo 23 = .ok (.istore 5, 2) := by decide +kernel
theorem dX12_areFactsSo_25 : decode cX12_areFactsSo 25 = .ok (.aload_n 0, 1) := by decide +kernel
theorem dX12_areFactsSo_26 : decode cX12_areFactsSo 26 = .ok (.getfield 39, 3) := by decide +kernel
theorem dX12_areFactsSo_29 : decode cX12_areFactsSo 29 = .ok (.iload 5, 2) := by decide +kernel
theorem dX12_areFactsSo_31 : decode cX12_areFactsSo 31 = .ok (.iaload, 1) := by decide +kernel
theorem dX12_areFactsSo_32 : decode cX12_areFactsSo 32 = .ok (.iload_n 1, 1) := by decide +kernel
theorem dX12_areFactsSo_33 : decode cX12_areFactsSo 33 = .ok (.if_icmp .eq 6, 3) := by decide +kernel
theorem dX12_areFactsSo_36 : decode cX12_areFactsSo 36 = .ok (.goto 68, 3) := by decide +kernel
theorem dX12_areFactsSo_39 : decode cX12_areFactsSo 39 = .ok (.aload_n 0, 1) := by decide +kernel
theorem dX12_areFactsSo_40 : decode cX12_areFactsSo 40 = .ok (.aload_n 0, 1) := by decide +kernel
theorem dX12_areFactsSo_41 : decode cX12_areFactsSo 41 = .ok (.getfield 39, 3) := by decide +kernel
theorem dX12_areFactsSo_44 : decode cX12_areFactsSo 44 = .ok (.iload 5, 2) := by decide +kernel
theorem dX12_areFactsSo_46 : decode cX12_areFactsSo 46 = .ok (.iconst 1, 1) := by decide +kernel
theorem dX12_areFactsSo_47 : decode cX12_areFactsSo 47 = .ok (.iadd, 1) := by decide +kernel
theorem dX12_areFactsSo_48 : decode cX12_areFactsSo 48 = .ok (.iaload, 1) := by decide +kernel
theorem dX12_areFactsSo_49 : decode cX12_areFactsSo 49 = .ok (.iload_n 1, 1) := by decide +kernel
theorem dX12_areFactsSo_50 : decode cX12_areFactsSo 50 = .ok (.iload_n 2, 1) := by decide +kernel
theorem dX12_areFactsSo_51 : decode cX12_areFactsSo 51 = .ok (.iload_n 3, 1) := by decide +kernel
theorem dX12_areFactsSo_52 : decode cX12_areFactsSo 52 = .ok (.invokevirtual 469, 3) := by decide +kernel
theorem dX12_areFactsSo_55 : decode cX12_areFactsSo 55 = .ok (.istore 6, 2) := by decide +kernel
theorem dX12_areFactsSo_57 : decode cX12_areFactsSo 57 = .ok (.aload_n 0, 1) := by decide +kernel
theorem dX12_areFactsSo_58 : decode cX12_areFactsSo 58 = .ok (.getfield 39, 3) := by decide +kernel
theorem dX12_areFactsSo_61 : decode cX12_areFactsSo 61 = .ok (.iload 5, 2) := by decide +kernel
theorem dX12_areFactsSo_63 : decode cX12_areFactsSo 63 = .ok (.iconst 1, 1) := by decide +kernel
theorem dX12_areFactsSo_64 : decode cX12_areFactsSo 64 = .ok (.iadd, 1) := by decide +kernel
theorem dX12_areFactsSo_65 : decode cX12_areFactsSo 65 = .ok (.iaload, 1) := by decide +kernel
theorem dX12_areFactsSo_66 : decode cX12_areFactsSo 66 = .ok (.iconst 2, 1) := by decide +kernel
theorem dX12_areFactsSo_67 : decode cX12_areFactsSo 67 = .ok (.irem, 1) := by decide +kernel
theorem dX12_areFactsSo_68 : decode cX12_areFactsSo 68 = .ok (.ifCond .ne 20, 3) := by decide +kernel
theorem dX12_areFactsSo_71 : decode cX12_areFactsSo 71 = .ok (.iload 6, 2) := by decide +kernel
theorem dX12_areFactsSo_73 : decode cX12_areFactsSo 73 = .ok (.aload_n 0, 1) := by decide +kernel
theorem dX12_areFactsSo_74 : decode cX12_areFactsSo 74 = .ok (.getfield 39, 3) := by decide +kernel
theorem dX12_areFactsSo_77 : decode cX12_areFactsSo 77 = .ok (.iload 5, 2) := by decide +kernel
theorem dX12_areFactsSo_79 : decode cX12_areFactsSo 79 = .ok (.iconst 2, 1) := by decide +kernel
theorem dX12_areFactsSo_80 : decode cX12_areFactsSo 80 = .ok (.iadd, 1) := by decide +kernel
theorem dX12_areFactsSo_81 : decode cX12_areFactsSo 81 = .ok (.iaload, 1) := by decide +kernel
theorem dX12_areFactsSo_82 : decode cX12_areFactsSo 82 = .ok (.if_icmp .ge 22, 3) := by decide +kernel
theorem dX12_areFactsSo_85 : decode cX12_areFactsSo 85 = .ok (.goto 17, 3) := by decide +kernel
theorem dX12_areFactsSo_88 : decode cX12_areFactsSo 88 = .ok (.iload 6, 2) := by decide +kernel
theorem dX12_areFactsSo_90 : decode cX12_areFactsSo 90 = .ok (.aload_n 0, 1) := by decide +kernel
theorem dX12_areFactsSo_91 : decode cX12_areFactsSo 91 = .ok (.getfield 39, 3) := by decide +kernel
theorem dX12_areFactsSo_94 : decode cX12_areFactsSo 94 = .ok (.iload 5, 2) := by decide +kernel
theorem dX12_areFactsSo_96 : decode cX12_areFactsSo 96 = .ok (.iconst 2, 1) := by decide +kernel
theorem dX12_areFactsSo_97 : decode cX12_areFactsSo 97 = .ok (.iadd, 1) := by decide +kernel
theorem dX12_areFactsSo_98 : decode cX12_areFactsSo 98 = .ok (.iaload, 1) := by decide +kernel
theorem dX12_areFactsSo_99 : decode cX12_areFactsSo 99 = .ok (.if_icmp .le 5, 3) := by decide +kernel
theorem dX12_areFactsSo_102 : decode cX12_areFactsSo 102 = .ok (.iconst 0, 1) := by decide +kernel
theorem dX12_areFactsSo_103 : decode cX12_areFactsSo 103 = .ok (.ireturn, 1) := by decide +kernel
theorem dX12_areFactsSo_104 : decode cX12_areFactsSo 104 = .ok (.iinc 4 1, 3) := by decide +kernel
theorem dX12_areFactsSo_107 : decode cX12_areFactsSo 107 = .ok (.goto (-104), 3) := by decide +kernel
theorem dX12_areFactsSo_110 : decode cX12_areFactsSo 110 = .ok (.iconst 1, 1) := by decide +kernel
theorem dX12_areFactsSo_111 : decode cX12_areFactsSo 111 = .ok (.ireturn, 1) := by decide +kernel
theorem dX12_gathersWho_0 : decode cX12_gathersWho 0 = .ok (.aload_n 0, 1) := by decide +kernel
theorem dX12_gathersWho_1 : decode cX12_gathersWho 1 = .ok (.iconst 0, 1) := by decide +kernel
theorem dX12_gathersWho_2 : decode cX12_gathersWho 2 = .ok (.putfield 472, 3) := by decide +kernel
theorem dX12_gathersWho_5 : decode cX12_gathersWho 5 = .ok (.iconst 0, 1) := by decide +kernel
theorem dX12_gathersWho_6 : decode cX12_gathersWho 6 = .ok (.istore_n 2, 1) := by decide +kernel
theorem dX12_gathersWho_7 : decode cX12_gathersWho 7 = .ok (.iload_n 2, 1) := by decide +kernel
theorem dX12_gathersWho_8 : decode cX12_gathersWho 8 = .ok (.aload_n 0, 1) := by decide +kernel
theorem dX12_gathersWho_9 : decode cX12_gathersWho 9 = .ok (.getfield 39, 3) := by decide +kernel
theorem dX12_gathersWho_12 : decode cX12_gathersWho 12 = .ok (.iconst 2, 1) := by decide +kernel
theorem dX12_gathersWho_13 : decode cX12_gathersWho 13 = .ok (.iaload, 1) := by decide +kernel
theorem dX12_gathersWho_14 : decode cX12_gathersWho 14 = .ok (.if_icmp .ge 76, 3) := by decide +kernel
theorem dX12_gathersWho_17 : decode cX12_gathersWho 17 = .ok (.iconst 0, 1) := by decide +kernel
theorem dX12_gathersWho_18 : decode cX12_gathersWho 18 = .ok (.istore_n 3, 1) := by decide +kernel
theorem dX12_gathersWho_19 : decode cX12_gathersWho 19 = .ok (.iload_n 3, 1) := by decide +kernel
theorem dX12_gathersWho_20 : decode cX12_gathersWho 20 = .ok (.bipush 60, 2) := by decide +kernel
theorem dX12_gathersWho_22 : decode cX12_gathersWho 22 = .ok (.if_icmp .gt 62, 3) := by decide +kernel
theorem dX12_gathersWho_25 : decode cX12_gathersWho 25 = .ok (.aload_n 0, 1) := by decide +kernel
theorem dX12_gathersWho_26 : decode cX12_gathersWho 26 = .ok (.iload_n 1, 1) := by decide +kernel
theorem dX12_gathersWho_27 : decode cX12_gathersWho 27 = .ok (.iload_n 2, 1) := by decide +kernel
theorem dX12_gathersWho_28 : decode cX12_gathersWho 28 = .ok (.iload_n 3, 1) := by decide +kernel
theorem dX12_gathersWho_29 : decode cX12_gathersWho 29 = .ok (.invokevirtual 354, 3) := by decide +kernel
theorem dX12_gathersWho_32 : decode cX12_gathersWho 32 = .ok (.ifCond .eq 46, 3) := by decide +kernel
theorem dX12_gathersWho_35 : decode cX12_gathersWho 35 = .ok (.aload_n 0, 1) := by decide +kernel
theorem dX12_gathersWho_36 : decode cX12_gathersWho 36 = .ok (.iload_n 1, 1) := by decide +kernel
theorem dX12_gathersWho_37 : decode cX12_gathersWho 37 = .ok (.iload_n 2, 1) := by decide +kernel
theorem dX12_gathersWho_38 : decode cX12_gathersWho 38 = .ok (.iload_n 3, 1) := by decide +kernel
theorem dX12_gathersWho_39 : decode cX12_gathersWho 39 = .ok (.invokevirtual 475, 3) := by decide +kernel
theorem dX12_gathersWho_42 : decode cX12_gathersWho 42 = .ok (.ifCond .ne 6, 3) := by decide +kernel
theorem dX12_gathersWho_45 : decode cX12_gathersWho 45 = .ok (.goto 33, 3) := by decide +kernel
theorem dX12_gathersWho_48 : decode cX12_gathersWho 48 = .ok (.aload_n 0, 1) := by decide +kernel
theorem dX12_gathersWho_49 : decode cX12_gathersWho 49 = .ok (.getfield 80, 3) := by decide +kernel
theorem dX12_gathersWho_52 : decode cX12_gathersWho 52 = .ok (.aload_n 0, 1) := by decide +kernel
theorem dX12_gathersWho_53 : decode cX12_gathersWho 53 = .ok (.getfield 472, 3) := by decide +kernel
theorem dX12_gathersWho_56 : decode cX12_gathersWho 56 = .ok (.iload_n 2, 1) := by decide +kernel
theorem dX12_gathersWho_57 : decode cX12_gathersWho 57 = .ok (.iastore, 1) := by decide +kernel
theorem dX12_gathersWho_58 : decode cX12_gathersWho 58 = .ok (.aload_n 0, 1) := by decide +kernel
theorem dX12_gathersWho_59 : decode cX12_gathersWho 59 = .ok (.getfield 83, 3) := by decide +kernel
theorem dX12_gathersWho_62 : decode cX12_gathersWho 62 = .ok (.aload_n 0, 1) := by decide +kernel
theorem dX12_gathersWho_63 : decode cX12_gathersWho 63 = .ok (.getfield 472, 3) := by decide +kernel
theorem dX12_gathersWho_66 : decode cX12_gathersWho 66 = .ok (.iload_n 3, 1) := by decide +kernel
theorem dX12_gathersWho_67 : decode cX12_gathersWho 67 = .ok (.iastore, 1) := by decide +kernel
theorem dX12_gathersWho_68 : decode cX12_gathersWho 68 = .ok (.aload_n 0, 1) := by decide +kernel
theorem dX12_gathersWho_69 : decode cX12_gathersWho 69 = .ok (.dup, 1) := by decide +kernel
theorem dX12_gathersWho_70 : decode cX12_gathersWho 70 = .ok (.getfield 472, 3) := by decide +kernel
theorem dX12_gathersWho_73 : decode cX12_gathersWho 73 = .ok (.iconst 1, 1) := by decide +kernel
theorem dX12_gathersWho_74 : decode cX12_gathersWho 74 = .ok (.iadd, 1) := by decide +kernel
theorem dX12_gathersWho_75 : decode cX12_gathersWho 75 = .ok (.putfield 472, 3) := by decide +kernel
theorem dX12_gathersWho_78 : decode cX12_gathersWho 78 = .ok (.iinc 3 1, 3) := by decide +kernel
theorem dX12_gathersWho_81 : decode cX12_gathersWho 81 = .ok (.goto (-62), 3) := by decide +kernel
theorem dX12_gathersWho_84 : decode cX12_gathersWho 84 = .ok (.iinc 2 1, 3) := by decide +kernel
theorem dX12_gathersWho_87 : decode cX12_gathersWho 87 = .ok (.goto (-80), 3) := by decide +kernel
theorem dX12_gathersWho_90 : decode cX12_gathersWho 90 = .ok (.return_, 1) := by decide +kernel
theorem dX12_who_0 : decode cX12_who 0 = .ok (.aload_n 0, 1) := by decide +kernel
theorem dX12_who_1 : decode cX12_who 1 = .ok (.iload_n 1, 1) := by decide +kernel
theorem dX12_who_2 : decode cX12_who 2 = .ok (.invokevirtual 347, 3) := by decide +kernel
theorem dX12_who_5 : decode cX12_who 5 = .ok (.ifCond .eq 15, 3) := by decide +kernel
theorem dX12_who_8 : decode cX12_who 8 = .ok (.iload_n 2, 1) := by decide +kernel
theorem dX12_who_9 : decode cX12_who 9 = .ok (.i2l, 1) := by decide +kernel
theorem dX12_who_10 : decode cX12_who 10 = .ok (.lconst 0, 1) := by decide +kernel
theorem dX12_who_11 : decode cX12_who 11 = .ok (.ldc2_w 462, 3) := by decide +kernel
theorem dX12_who_14 : decode cX12_who 14 = .ok (.invokestatic 142, 3) := by decide +kernel
theorem dX12_who_17 : decode cX12_who 17 = .ok (.ifCond .ne 5, 3) := by decide +kernel
theorem dX12_who_20 : decode cX12_who 20 = .ok (.iconst (-1), 1) := by decide +kernel
theorem dX12_who_21 : decode cX12_who 21 = .ok (.ireturn, 1) := by decide +kernel
theorem dX12_who_22 : decode cX12_who 22 = .ok (.aload_n 0, 1) := by decide +kernel
theorem dX12_who_23 : decode cX12_who 23 = .ok (.iload_n 1, 1) := by decide +kernel
theorem dX12_who_24 : decode cX12_who 24 = .ok (.invokevirtual 478, 3) := by decide +kernel
theorem dX12_who_27 : decode cX12_who 27 = .ok (.iconst 0, 1) := by decide +kernel
theorem dX12_who_28 : decode cX12_who 28 = .ok (.istore_n 3, 1) := by decide +kernel
theorem dX12_who_29 : decode cX12_who 29 = .ok (.iconst 0, 1) := by decide +kernel
theorem dX12_who_30 : decode cX12_who 30 = .ok (.istore 4, 2) := by decide +kernel
theorem dX12_who_32 : decode cX12_who 32 = .ok (.iload 4, 2) := by decide +kernel
theorem dX12_who_34 : decode cX12_who 34 = .ok (.aload_n 0, 1) := by decide +kernel
theorem dX12_who_35 : decode cX12_who 35 = .ok (.getfield 472, 3) := by decide +kernel
theorem dX12_who_38 : decode cX12_who 38 = .ok (.if_icmp .ge 21, 3) := by decide +kernel
theorem dX12_who_41 : decode cX12_who 41 = .ok (.iload_n 3, 1) := by decide +kernel
theorem dX12_who_42 : decode cX12_who 42 = .ok (.iconst 1, 1) := by decide +kernel
theorem dX12_who_43 : decode cX12_who 43 = .ok (.aload_n 0, 1) := by decide +kernel
theorem dX12_who_44 : decode cX12_who 44 = .ok (.getfield 80, 3) := by decide +kernel
theorem dX12_who_47 : decode cX12_who 47 = .ok (.iload 4, 2) := by decide +kernel
theorem dX12_who_49 : decode cX12_who 49 = .ok (.iaload, 1) := by decide +kernel
theorem dX12_who_50 : decode cX12_who 50 = .ok (.ishl, 1) := by decide +kernel
theorem dX12_who_51 : decode cX12_who 51 = .ok (.ior, 1) := by decide +kernel
theorem dX12_who_52 : decode cX12_who 52 = .ok (.istore_n 3, 1) := by decide +kernel
theorem dX12_who_53 : decode cX12_who 53 = .ok (.iinc 4 1, 3) := by decide +kernel
theorem dX12_who_56 : decode cX12_who 56 = .ok (.goto (-24), 3) := by decide +kernel
theorem dX12_who_59 : decode cX12_who 59 = .ok (.iload_n 2, 1) := by decide +kernel
theorem dX12_who_60 : decode cX12_who 60 = .ok (.ifCond .ne 8, 3) := by decide +kernel
theorem dX12_who_63 : decode cX12_who 63 = .ok (.aload_n 0, 1) := by decide +kernel
theorem dX12_who_64 : decode cX12_who 64 = .ok (.getfield 472, 3) := by decide +kernel
theorem dX12_who_67 : decode cX12_who 67 = .ok (.ireturn, 1) := by decide +kernel
theorem dX12_who_68 : decode cX12_who 68 = .ok (.iload_n 2, 1) := by decide +kernel
theorem dX12_who_69 : decode cX12_who 69 = .ok (.iconst 3, 1) := by decide +kernel
theorem dX12_who_70 : decode cX12_who 70 = .ok (.if_icmp .ne 5, 3) := by decide +kernel
theorem dX12_who_73 : decode cX12_who 73 = .ok (.iload_n 3, 1) := by decide +kernel
theorem dX12_who_74 : decode cX12_who 74 = .ok (.ireturn, 1) := by decide +kernel
theorem dX12_who_75 : decode cX12_who 75 = .ok (.aload_n 0, 1) := by decide +kernel
theorem dX12_who_76 : decode cX12_who 76 = .ok (.getfield 472, 3) := by decide +kernel
theorem dX12_who_79 : decode cX12_who 79 = .ok (.ifCond .ne 8, 3) := by decide +kernel
theorem dX12_who_82 : decode cX12_who 82 = .ok (.bipush (-2), 2) := by decide +kernel
theorem dX12_who_84 : decode cX12_who 84 = .ok (.goto 23, 3) := by decide +kernel
theorem dX12_who_87 : decode cX12_who 87 = .ok (.iload_n 2, 1) := by decide +kernel
theorem dX12_who_88 : decode cX12_who 88 = .ok (.iconst 1, 1) := by decide +kernel
theorem dX12_who_89 : decode cX12_who 89 = .ok (.if_icmp .ne 12, 3) := by decide +kernel
theorem dX12_who_92 : decode cX12_who 92 = .ok (.aload_n 0, 1) := by decide +kernel
theorem dX12_who_93 : decode cX12_who 93 = .ok (.getfield 80, 3) := by decide +kernel
theorem dX12_who_96 : decode cX12_who 96 = .ok (.iconst 0, 1) := by decide +kernel
theorem dX12_who_97 : decode cX12_who 97 = .ok (.iaload, 1) := by decide +kernel
theorem dX12_who_98 : decode cX12_who 98 = .ok (.goto 9, 3) := by decide +kernel
theorem dX12_who_101 : decode cX12_who 101 = .ok (.aload_n 0, 1) := by decide +kernel
theorem dX12_who_102 : decode cX12_who 102 = .ok (.getfield 83, 3) := by decide +kernel
theorem dX12_who_105 : decode cX12_who 105 = .ok (.iconst 0, 1) := by decide +kernel
theorem dX12_who_106 : decode cX12_who 106 = .ok (.iaload, 1) := by decide +kernel
theorem dX12_who_107 : decode cX12_who 107 = .ok (.ireturn, 1) := by decide +kernel
theorem dX12_alikeBy_0 : decode cX12_alikeBy 0 = .ok (.iconst 0, 1) := by decide +kernel
theorem dX12_alikeBy_1 : decode cX12_alikeBy 1 = .ok (.istore_n 3, 1) := by decide +kernel
theorem dX12_alikeBy_2 : decode cX12_alikeBy 2 = .ok (.iload_n 3, 1) := by decide +kernel
theorem dX12_alikeBy_3 : decode cX12_alikeBy 3 = .ok (.aload_n 0, 1) := by decide +kernel
theorem dX12_alikeBy_4 : decode cX12_alikeBy 4 = .ok (.getfield 472, 3) := by decide +kernel
theorem dX12_alikeBy_7 : decode cX12_alikeBy 7 = .ok (.if_icmp .ge 59, 3) := by decide +kernel
theorem dX12_alikeBy_10 : decode cX12_alikeBy 10 = .ok (.aload_n 0, 1) := by decide +kernel
theorem dX12_alikeBy_11 : decode cX12_alikeBy 11 = .ok (.getfield 86, 3) := by decide +kernel
theorem dX12_alikeBy_14 : decode cX12_alikeBy 14 = .ok (.iload_n 3, 1) := by decide +kernel
theorem dX12_alikeBy_15 : decode cX12_alikeBy 15 = .ok (.iload_n 2, 1) := by decide +kernel
theorem dX12_alikeBy_16 : decode cX12_alikeBy 16 = .ok (.ifCond .ne 12, 3) := by decide +kernel
theorem dX12_alikeBy_19 : decode cX12_alikeBy 19 = .ok (.aload_n 0, 1) := by decide +kernel
theorem dX12_alikeBy_20 : decode cX12_alikeBy 20 = .ok (.getfield 80, 3) := by decide +kernel
theorem dX12_alikeBy_23 : decode cX12_alikeBy 23 = .ok (.iload_n 3, 1) := by decide +kernel
theorem dX12_alikeBy_24 : decode cX12_alikeBy 24 = .ok (.iaload, 1) := by decide +kernel
theorem dX12_alikeBy_25 : decode cX12_alikeBy 25 = .ok (.goto 34, 3) := by decide +kernel
theorem dX12_alikeBy_28 : decode cX12_alikeBy 28 = .ok (.iload_n 2, 1) := by decide +kernel
theorem dX12_alikeBy_29 : decode cX12_alikeBy 29 = .ok (.iconst 1, 1) := by decide +kernel
theorem dX12_alikeBy_30 : decode cX12_alikeBy 30 = .ok (.if_icmp .ne 12, 3) := by decide +kernel
theorem dX12_alikeBy_33 : decode cX12_alikeBy 33 = .ok (.aload_n 0, 1) := by decide +kernel
theorem dX12_alikeBy_34 : decode cX12_alikeBy 34 = .ok (.getfield 83, 3) := by decide +kernel
theorem dX12_alikeBy_37 : decode cX12_alikeBy 37 = .ok (.iload_n 3, 1) := by decide +kernel
theorem dX12_alikeBy_38 : decode cX12_alikeBy 38 = .ok (.iaload, 1) := by decide +kernel
theorem dX12_alikeBy_39 : decode cX12_alikeBy 39 = .ok (.goto 20, 3) := by decide +kernel
theorem dX12_alikeBy_42 : decode cX12_alikeBy 42 = .ok (.aload_n 0, 1) := by decide +kernel
theorem dX12_alikeBy_43 : decode cX12_alikeBy 43 = .ok (.iload_n 1, 1) := by decide +kernel
theorem dX12_alikeBy_44 : decode cX12_alikeBy 44 = .ok (.aload_n 0, 1) := by decide +kernel
theorem dX12_alikeBy_45 : decode cX12_alikeBy 45 = .ok (.getfield 80, 3) := by decide +kernel
theorem dX12_alikeBy_48 : decode cX12_alikeBy 48 = .ok (.iload_n 3, 1) := by decide +kernel
theorem dX12_alikeBy_49 : decode cX12_alikeBy 49 = .ok (.iaload, 1) := by decide +kernel
theorem dX12_alikeBy_50 : decode cX12_alikeBy 50 = .ok (.aload_n 0, 1) := by decide +kernel
theorem dX12_alikeBy_51 : decode cX12_alikeBy 51 = .ok (.getfield 83, 3) := by decide +kernel
theorem dX12_alikeBy_54 : decode cX12_alikeBy 54 = .ok (.iload_n 3, 1) := by decide +kernel
theorem dX12_alikeBy_55 : decode cX12_alikeBy 55 = .ok (.iaload, 1) := by decide +kernel
theorem dX12_alikeBy_56 : decode cX12_alikeBy 56 = .ok (.invokevirtual 466, 3) := by decide +kernel
theorem dX12_alikeBy_59 : decode cX12_alikeBy 59 = .ok (.iastore, 1) := by decide +kernel
theorem dX12_alikeBy_60 : decode cX12_alikeBy 60 = .ok (.iinc 3 1, 3) := by decide +kernel
theorem dX12_alikeBy_63 : decode cX12_alikeBy 63 = .ok (.goto (-61), 3) := by decide +kernel
theorem dX12_alikeBy_66 : decode cX12_alikeBy 66 = .ok (.iconst 0, 1) := by decide +kernel
theorem dX12_alikeBy_67 : decode cX12_alikeBy 67 = .ok (.istore_n 3, 1) := by decide +kernel
theorem dX12_alikeBy_68 : decode cX12_alikeBy 68 = .ok (.iconst 0, 1) := by decide +kernel
theorem dX12_alikeBy_69 : decode cX12_alikeBy 69 = .ok (.istore 4, 2) := by decide +kernel
theorem dX12_alikeBy_71 : decode cX12_alikeBy 71 = .ok (.iload 4, 2) := by decide +kernel
theorem dX12_alikeBy_73 : decode cX12_alikeBy 73 = .ok (.aload_n 0, 1) := by decide +kernel
theorem dX12_alikeBy_74 : decode cX12_alikeBy 74 = .ok (.getfield 472, 3) := by decide +kernel
theorem dX12_alikeBy_77 : decode cX12_alikeBy 77 = .ok (.if_icmp .ge 70, 3) := by decide +kernel
theorem dX12_alikeBy_80 : decode cX12_alikeBy 80 = .ok (.iconst 0, 1) := by decide +kernel
theorem dX12_alikeBy_81 : decode cX12_alikeBy 81 = .ok (.istore 5, 2) := by decide +kernel
theorem dX12_alikeBy_83 : decode cX12_alikeBy 83 = .ok (.iconst 0, 1) := by decide +kernel
theorem dX12_alikeBy_84 : decode cX12_alikeBy 84 = .ok (.istore 6, 2) := by decide +kernel
theorem dX12_alikeBy_86 : decode cX12_alikeBy 86 = .ok (.iload 6, 2) := by decide +kernel
theorem dX12_alikeBy_88 : decode cX12_alikeBy 88 = .ok (.aload_n 0, 1) := by decide +kernel
theorem dX12_alikeBy_89 : decode cX12_alikeBy 89 = .ok (.getfield 472, 3) := by decide +kernel
theorem dX12_alikeBy_92 : decode cX12_alikeBy 92 = .ok (.if_icmp .ge 36, 3) := by decide +kernel
theorem dX12_alikeBy_95 : decode cX12_alikeBy 95 = .ok (.iload 5, 2) := by decide +kernel
theorem dX12_alikeBy_97 : decode cX12_alikeBy 97 = .ok (.aload_n 0, 1) := by decide +kernel
theorem dX12_alikeBy_98 : decode cX12_alikeBy 98 = .ok (.getfield 86, 3) := by decide +kernel
theorem dX12_alikeBy_101 : decode cX12_alikeBy 101 = .ok (.iload 6, 2) := by decide +kernel
theorem dX12_alikeBy_103 : decode cX12_alikeBy 103 = .ok (.iaload, 1) := by decide +kernel
theorem dX12_alikeBy_104 : decode cX12_alikeBy 104 = .ok (.aload_n 0, 1) := by decide +kernel
theorem dX12_alikeBy_105 : decode cX12_alikeBy 105 = .ok (.getfield 86, 3) := by decide +kernel
theorem dX12_alikeBy_108 : decode cX12_alikeBy 108 = .ok (.iload 4, 2) := by decide +kernel
theorem dX12_alikeBy_110 : decode cX12_alikeBy 110 = .ok (.iaload, 1) := by decide +kernel
theorem dX12_alikeBy_111 : decode cX12_alikeBy 111 = .ok (.if_icmp .ne 7, 3) := by decide +kernel
theorem dX12_alikeBy_114 : decode cX12_alikeBy 114 = .ok (.iconst 1, 1) := by decide +kernel
theorem dX12_alikeBy_115 : decode cX12_alikeBy 115 = .ok (.goto 4, 3) := by decide +kernel
theorem dX12_alikeBy_118 : decode cX12_alikeBy 118 = .ok (.iconst 0, 1) := by decide +kernel
theorem dX12_alikeBy_119 : decode cX12_alikeBy 119 = .ok (.iadd, 1) := by decide +kernel
theorem dX12_alikeBy_120 : decode cX12_alikeBy 120 = .ok (.istore 5, 2) := by decide +kernel
theorem dX12_alikeBy_122 : decode cX12_alikeBy 122 = .ok (.iinc 6 1, 3) := by decide +kernel
theorem dX12_alikeBy_125 : decode cX12_alikeBy 125 = .ok (.goto (-39), 3) := by decide +kernel
theorem dX12_alikeBy_128 : decode cX12_alikeBy 128 = .ok (.iload 5, 2) := by decide +kernel
theorem dX12_alikeBy_130 : decode cX12_alikeBy 130 = .ok (.iload_n 3, 1) := by decide +kernel
theorem dX12_alikeBy_131 : decode cX12_alikeBy 131 = .ok (.if_icmp .le 8, 3) := by decide +kernel
theorem dX12_alikeBy_134 : decode cX12_alikeBy 134 = .ok (.iload 5, 2) := by decide +kernel
theorem dX12_alikeBy_136 : decode cX12_alikeBy 136 = .ok (.goto 4, 3) := by decide +kernel
theorem dX12_alikeBy_139 : decode cX12_alikeBy 139 = .ok (.iload_n 3, 1) := by decide +kernel
theorem dX12_alikeBy_140 : decode cX12_alikeBy 140 = .ok (.istore_n 3, 1) := by decide +kernel
theorem dX12_alikeBy_141 : decode cX12_alikeBy 141 = .ok (.iinc 4 1, 3) := by decide +kernel
theorem dX12_alikeBy_144 : decode cX12_alikeBy 144 = .ok (.goto (-73), 3) := by decide +kernel
theorem dX12_alikeBy_147 : decode cX12_alikeBy 147 = .ok (.iload_n 3, 1) := by decide +kernel
theorem dX12_alikeBy_148 : decode cX12_alikeBy 148 = .ok (.ireturn, 1) := by decide +kernel
theorem dX12_look_0 : decode cX12_look 0 = .ok (.aload_n 0, 1) := by decide +kernel
theorem dX12_look_1 : decode cX12_look 1 = .ok (.iload_n 1, 1) := by decide +kernel
theorem dX12_look_2 : decode cX12_look 2 = .ok (.invokevirtual 347, 3) := by decide +kernel
theorem dX12_look_5 : decode cX12_look 5 = .ok (.ifCond .eq 13, 3) := by decide +kernel
theorem dX12_look_8 : decode cX12_look 8 = .ok (.iload_n 2, 1) := by decide +kernel
theorem dX12_look_9 : decode cX12_look 9 = .ok (.i2l, 1) := by decide +kernel
theorem dX12_look_10 : decode cX12_look 10 = .ok (.lconst 0, 1) := by decide +kernel
theorem dX12_look_11 : decode cX12_look 11 = .ok (.lconst 1, 1) := by decide +kernel
theorem dX12_look_12 : decode cX12_look 12 = .ok (.invokestatic 142, 3) := by decide +kernel
theorem dX12_look_15 : decode cX12_look 15 = .ok (.ifCond .ne 5, 3) := by decide +kernel
theorem dX12_look_18 : decode cX12_look 18 = .ok (.iconst (-1), 1) := by decide +kernel
theorem dX12_look_19 : decode cX12_look 19 = .ok (.ireturn, 1) := by decide +kernel
theorem dX12_look_20 : decode cX12_look 20 = .ok (.aload_n 0, 1) := by decide +kernel
theorem dX12_look_21 : decode cX12_look 21 = .ok (.iload_n 1, 1) := by decide +kernel
theorem dX12_look_22 : decode cX12_look 22 = .ok (.invokevirtual 478, 3) := by decide +kernel
theorem dX12_look_25 : decode cX12_look 25 = .ok (.aload_n 0, 1) := by decide +kernel
theorem dX12_look_26 : decode cX12_look 26 = .ok (.getfield 472, 3) := by decide +kernel
theorem dX12_look_29 : decode cX12_look 29 = .ok (.ifCond .ne 6, 3) := by decide +kernel
theorem dX12_look_32 : decode cX12_look 32 = .ok (.bipush (-2), 2) := by decide +kernel
theorem dX12_look_34 : decode cX12_look 34 = .ok (.ireturn, 1) := by decide +kernel
theorem dX12_look_35 : decode cX12_look 35 = .ok (.iconst 0, 1) := by decide +kernel
theorem dX12_look_36 : decode cX12_look 36 = .ok (.istore_n 3, 1) := by decide +kernel
theorem dX12_look_37 : decode cX12_look 37 = .ok (.iconst 1, 1) := by decide +kernel
theorem dX12_look_38 : decode cX12_look 38 = .ok (.istore 4, 2) := by decide +kernel
theorem dX12_look_40 : decode cX12_look 40 = .ok (.iload 4, 2) := by decide +kernel
theorem dX12_look_42 : decode cX12_look 42 = .ok (.iconst 3, 1) := by decide +kernel
theorem dX12_look_43 : decode cX12_look 43 = .ok (.if_icmp .ge 28, 3) := by decide +kernel
theorem dX12_look_46 : decode cX12_look 46 = .ok (.aload_n 0, 1) := by decide +kernel
theorem dX12_look_47 : decode cX12_look 47 = .ok (.iload_n 1, 1) := by decide +kernel
theorem dX12_look_48 : decode cX12_look 48 = .ok (.iload 4, 2) := by decide +kernel
theorem dX12_look_50 : decode cX12_look 50 = .ok (.invokevirtual 481, 3) := by decide +kernel
theorem dX12_look_53 : decode cX12_look 53 = .ok (.aload_n 0, 1) := by decide +kernel
theorem dX12_look_54 : decode cX12_look 54 = .ok (.iload_n 1, 1) := by decide +kernel
theorem dX12_look_55 : decode cX12_look 55 = .ok (.iload_n 3, 1) := by decide +kernel
theorem dX12_look_56 : decode cX12_look 56 = .ok (.invokevirtual 481, 3) := by decide +kernel
theorem dX12_look_59 : decode cX12_look 59 = .ok (.if_icmp .ge 6, 3) := by decide +kernel
theorem dX12_look_62 : decode cX12_look 62 = .ok (.iload 4, 2) := by decide +kernel
theorem dX12_look_64 : decode cX12_look 64 = .ok (.istore_n 3, 1) := by decide +kernel
theorem dX12_look_65 : decode cX12_look 65 = .ok (.iinc 4 1, 3) := by decide +kernel
theorem dX12_look_68 : decode cX12_look 68 = .ok (.goto (-28), 3) := by decide +kernel
theorem dX12_look_71 : decode cX12_look 71 = .ok (.iload_n 2, 1) := by decide +kernel
theorem dX12_look_72 : decode cX12_look 72 = .ok (.ifCond .ne 7, 3) := by decide +kernel
theorem dX12_look_75 : decode cX12_look 75 = .ok (.iload_n 3, 1) := by decide +kernel
theorem dX12_look_76 : decode cX12_look 76 = .ok (.goto 9, 3) := by decide +kernel
theorem dX12_look_79 : decode cX12_look 79 = .ok (.aload_n 0, 1) := by decide +kernel
theorem dX12_look_80 : decode cX12_look 80 = .ok (.iload_n 1, 1) := by decide +kernel
theorem dX12_look_81 : decode cX12_look 81 = .ok (.iload_n 3, 1) := by decide +kernel
theorem dX12_look_82 : decode cX12_look 82 = .ok (.invokevirtual 481, 3) := by decide +kernel
theorem dX12_look_85 : decode cX12_look 85 = .ok (.ireturn, 1) := by decide +kernel
theorem dX12_seed_0 : decode cX12_seed 0 = .ok (.iload_n 1, 1) := by decide +kernel
theorem dX12_seed_1 : decode cX12_seed 1 = .ok (.ifCond .ge 5, 3) := by decide +kernel
theorem dX12_seed_4 : decode cX12_seed 4 = .ok (.iconst (-1), 1) := by decide +kernel
theorem dX12_seed_5 : decode cX12_seed 5 = .ok (.ireturn, 1) := by decide +kernel
theorem dX12_seed_6 : decode cX12_seed 6 = .ok (.aload_n 0, 1) := by decide +kernel
theorem dX12_seed_7 : decode cX12_seed 7 = .ok (.getfield 484, 3) := by decide +kernel
theorem dX12_seed_10 : decode cX12_seed 10 = .ok (.istore_n 2, 1) := by decide +kernel
theorem dX12_seed_11 : decode cX12_seed 11 = .ok (.aload_n 0, 1) := by decide +kernel
theorem dX12_seed_12 : decode cX12_seed 12 = .ok (.iload_n 1, 1) := by decide +kernel
theorem dX12_seed_13 : decode cX12_seed 13 = .ok (.putfield 484, 3) := by decide +kernel
theorem dX12_seed_16 : decode cX12_seed 16 = .ok (.iload_n 2, 1) := by decide +kernel
theorem dX12_seed_17 : decode cX12_seed 17 = .ok (.ireturn, 1) := by decide +kernel
theorem dX12_draw_0 : decode cX12_draw 0 = .ok (.aload_n 0, 1) := by decide +kernel
theorem dX12_draw_1 : decode cX12_draw 1 = .ok (.aload_n 0, 1) := by decide +kernel
theorem dX12_draw_2 : decode cX12_draw 2 = .ok (.getfield 487, 3) := by decide +kernel
theorem dX12_draw_5 : decode cX12_draw 5 = .ok (.ldc2_w 491, 3) := by decide +kernel
theorem dX12_draw_8 : decode cX12_draw 8 = .ok (.lmul, 1) := by decide +kernel
theorem dX12_draw_9 : decode cX12_draw 9 = .ok (.ldc2_w 493, 3) := by decide +kernel
theorem dX12_draw_12 : decode cX12_draw 12 = .ok (.ladd, 1) := by decide +kernel
theorem dX12_draw_13 : decode cX12_draw 13 = .ok (.ldc2_w 495, 3) := by decide +kernel
theorem dX12_draw_16 : decode cX12_draw 16 = .ok (.lrem, 1) := by decide +kernel
theorem dX12_draw_17 : decode cX12_draw 17 = .ok (.putfield 487, 3) := by decide +kernel
theorem dX12_draw_20 : decode cX12_draw 20 = .ok (.aload_n 0, 1) := by decide +kernel
theorem dX12_draw_21 : decode cX12_draw 21 = .ok (.getfield 487, 3) := by decide +kernel
theorem dX12_draw_24 : decode cX12_draw 24 = .ok (.ldc2_w 497, 3) := by decide +kernel
theorem dX12_draw_27 : decode cX12_draw 27 = .ok (.ldiv, 1) := by decide +kernel
theorem dX12_draw_28 : decode cX12_draw 28 = .ok (.iload_n 1, 1) := by decide +kernel
theorem dX12_draw_29 : decode cX12_draw 29 = .ok (.i2l, 1) := by decide +kernel
theorem dX12_draw_30 : decode cX12_draw 30 = .ok (.lrem, 1) := by decide +kernel
theorem dX12_draw_31 : decode cX12_draw 31 = .ok (.l2i, 1) := by decide +kernel
theorem dX12_draw_32 : decode cX12_draw 32 = .ok (.ireturn, 1) := by decide +kernel
theorem dX12_hearsDrawn_0 : decode cX12_hearsDrawn 0 = .ok (.aload_n 0, 1) := by decide +kernel
theorem dX12_hearsDrawn_1 : decode cX12_hearsDrawn 1 = .ok (.aload_n 0, 1) := by decide +kernel
theorem dX12_hearsDrawn_2 : decode cX12_hearsDrawn 2 = .ok (.getfield 39, 3) := by decide +kernel
theorem dX12_hearsDrawn_5 : decode cX12_hearsDrawn 5 = .ok (.iconst 2, 1) := by decide +kernel
theorem dX12_hearsDrawn_6 : decode cX12_hearsDrawn 6 = .ok (.iaload, 1) := by decide +kernel
theorem dX12_hearsDrawn_7 : decode cX12_hearsDrawn 7 = .ok (.invokevirtual 499, 3) := by decide +kernel
theorem dX12_hearsDrawn_10 : decode cX12_hearsDrawn 10 = .ok (.istore_n 1, 1) := by decide +kernel
theorem dX12_hearsDrawn_11 : decode cX12_hearsDrawn 11 = .ok (.iconst 0, 1) := by decide +kernel
theorem dX12_hearsDrawn_12 : decode cX12_hearsDrawn 12 = .ok (.istore_n 2, 1) := by decide +kernel
theorem dX12_hearsDrawn_13 : decode cX12_hearsDrawn 13 = .ok (.iload_n 2, 1) := by decide +kernel
theorem dX12_hearsDrawn_14 : decode cX12_hearsDrawn 14 = .ok (.aload_n 0, 1) := by decide +kernel
theorem dX12_hearsDrawn_15 : decode cX12_hearsDrawn 15 = .ok (.getfield 39, 3) := by decide +kernel
theorem dX12_hearsDrawn_18 : decode cX12_hearsDrawn 18 = .ok (.iconst 3, 1) := by decide +kernel
theorem dX12_hearsDrawn_19 : decode cX12_hearsDrawn 19 = .ok (.iaload, 1) := by decide +kernel
theorem dX12_hearsDrawn_20 : decode cX12_hearsDrawn 20 = .ok (.if_icmp .ge 29, 3) := by decide +kernel
theorem dX12_hearsDrawn_23 : decode cX12_hearsDrawn 23 = .ok (.aload_n 0, 1) := by decide +kernel
theorem dX12_hearsDrawn_24 : decode cX12_hearsDrawn 24 = .ok (.iload_n 2, 1) := by decide +kernel
theorem dX12_hearsDrawn_25 : decode cX12_hearsDrawn 25 = .ok (.iload_n 1, 1) := by decide +kernel
theorem dX12_hearsDrawn_26 : decode cX12_hearsDrawn 26 = .ok (.invokevirtual 392, 3) := by decide +kernel
theorem dX12_hearsDrawn_29 : decode cX12_hearsDrawn 29 = .ok (.ifCond .ne 6, 3) := by decide +kernel
theorem dX12_hearsDrawn_32 : decode cX12_hearsDrawn 32 = .ok (.goto 11, 3) := by decide +kernel
theorem dX12_hearsDrawn_35 : decode cX12_hearsDrawn 35 = .ok (.aload_n 0, 1) := by decide +kernel
theorem dX12_hearsDrawn_36 : decode cX12_hearsDrawn 36 = .ok (.iload_n 2, 1) := by decide +kernel
theorem dX12_hearsDrawn_37 : decode cX12_hearsDrawn 37 = .ok (.iload_n 1, 1) := by decide +kernel
theorem dX12_hearsDrawn_38 : decode cX12_hearsDrawn 38 = .ok (.invokevirtual 395, 3) := by decide +kernel
theorem dX12_hearsDrawn_41 : decode cX12_hearsDrawn 41 = .ok (.pop, 1) := by decide +kernel
theorem dX12_hearsDrawn_42 : decode cX12_hearsDrawn 42 = .ok (.return_, 1) := by decide +kernel
theorem dX12_hearsDrawn_43 : decode cX12_hearsDrawn 43 = .ok (.iinc 2 1, 3) := by decide +kernel
theorem dX12_hearsDrawn_46 : decode cX12_hearsDrawn 46 = .ok (.goto (-33), 3) := by decide +kernel
theorem dX12_hearsDrawn_49 : decode cX12_hearsDrawn 49 = .ok (.return_, 1) := by decide +kernel
theorem dX12_years_0 : decode cX12_years 0 = .ok (.aload_n 0, 1) := by decide +kernel
theorem dX12_years_1 : decode cX12_years 1 = .ok (.invokevirtual 380, 3) := by decide +kernel
theorem dX12_years_4 : decode cX12_years 4 = .ok (.ifCond .eq 37, 3) := by decide +kernel
theorem dX12_years_7 : decode cX12_years 7 = .ok (.iload_n 1, 1) := by decide +kernel
theorem dX12_years_8 : decode cX12_years 8 = .ok (.i2l, 1) := by decide +kernel
theorem dX12_years_9 : decode cX12_years 9 = .ok (.lconst 1, 1) := by decide +kernel
theorem dX12_years_10 : decode cX12_years 10 = .ok (.ldc2_w 502, 3) := by decide +kernel
theorem dX12_years_13 : decode cX12_years 13 = .ok (.invokestatic 142, 3) := by decide +kernel
theorem dX12_years_16 : decode cX12_years 16 = .ok (.ifCond .eq 25, 3) := by decide +kernel
theorem dX12_years_19 : decode cX12_years 19 = .ok (.iload_n 2, 1) := by decide +kernel
theorem dX12_years_20 : decode cX12_years 20 = .ok (.i2l, 1) := by decide +kernel
theorem dX12_years_21 : decode cX12_years 21 = .ok (.lconst 1, 1) := by decide +kernel
theorem dX12_years_22 : decode cX12_years 22 = .ok (.ldc2_w 504, 3) := by decide +kernel
theorem dX12_years_25 : decode cX12_years 25 = .ok (.invokestatic 142, 3) := by decide +kernel
theorem dX12_years_28 : decode cX12_years 28 = .ok (.ifCond .eq 13, 3) := by decide +kernel
theorem dX12_years_31 : decode cX12_years 31 = .ok (.iload_n 3, 1) := by decide +kernel
theorem dX12_years_32 : decode cX12_years 32 = .ok (.i2l, 1) := by decide +kernel
theorem dX12_years_33 : decode cX12_years 33 = .ok (.lconst 0, 1) := by decide +kernel
theorem dX12_years_34 : decode cX12_years 34 = .ok (.lconst 1, 1) := by decide +kernel
theorem dX12_years_35 : decode cX12_years 35 = .ok (.invokestatic 142, 3) := by decide +kernel
theorem dX12_years_38 : decode cX12_years 38 = .ok (.ifCond .ne 5, 3) := by decide +kernel
theorem dX12_years_41 : decode cX12_years 41 = .ok (.iconst (-1), 1) := by decide +kernel
theorem dX12_years_42 : decode cX12_years 42 = .ok (.ireturn, 1) := by decide +kernel
theorem dX12_years_43 : decode cX12_years 43 = .ok (.aload_n 0, 1) := by decide +kernel
theorem dX12_years_44 : decode cX12_years 44 = .ok (.aload_n 0, 1) := by decide +kernel
theorem dX12_years_45 : decode cX12_years 45 = .ok (.getfield 484, 3) := by decide +kernel
theorem dX12_years_48 : decode cX12_years 48 = .ok (.i2l, 1) := by decide +kernel
theorem dX12_years_49 : decode cX12_years 49 = .ok (.putfield 487, 3) := by decide +kernel
theorem dX12_years_52 : decode cX12_years 52 = .ok (.iconst 0, 1) := by decide +kernel
theorem dX12_years_53 : decode cX12_years 53 = .ok (.istore 4, 2) := by decide +kernel
theorem dX12_years_55 : decode cX12_years 55 = .ok (.iconst 0, 1) := by decide +kernel
theorem dX12_years_56 : decode cX12_years 56 = .ok (.istore 5, 2) := by decide +kernel
theorem dX12_years_58 : decode cX12_years 58 = .ok (.iconst 0, 1) := by decide +kernel
theorem dX12_years_59 : decode cX12_years 59 = .ok (.istore 6, 2) := by decide +kernel
theorem dX12_years_61 : decode cX12_years 61 = .ok (.iload 6, 2) := by decide +kernel
theorem dX12_years_63 : decode cX12_years 63 = .ok (.bipush 111, 2) := by decide +kernel
theorem dX12_years_65 : decode cX12_years 65 = .ok (.if_icmp .ge 23, 3) := by decide +kernel
theorem dX12_years_68 : decode cX12_years 68 = .ok (.aload_n 0, 1) := by decide +kernel
theorem dX12_years_69 : decode cX12_years 69 = .ok (.getfield 89, 3) := by decide +kernel
theorem dX12_years_72 : decode cX12_years 72 = .ok (.iload 6, 2) := by decide +kernel
theorem dX12_years_74 : decode cX12_years 74 = .ok (.aload_n 0, 1) := by decide +kernel
theorem dX12_years_75 : decode cX12_years 75 = .ok (.getfield 39, 3) := by decide +kernel
theorem dX12_years_78 : decode cX12_years 78 = .ok (.iload 6, 2) := by decide +kernel
theorem dX12_years_80 : decode cX12_years 80 = .ok (.iaload, 1) := by decide +kernel
theorem dX12_years_81 : decode cX12_years 81 = .ok (.iastore, 1) := by decide +kernel
theorem dX12_years_82 : decode cX12_years 82 = .ok (.iinc 6 1, 3) := by decide +kernel
theorem dX12_years_85 : decode cX12_years 85 = .ok (.goto (-24), 3) := by decide +kernel
theorem dX12_years_88 : decode cX12_years 88 = .ok (.iconst 0, 1) := by decide +kernel
theorem dX12_years_89 : decode cX12_years 89 = .ok (.istore 6, 2) := by decide +kernel
theorem dX12_years_91 : decode cX12_years 91 = .ok (.iload 6, 2) := by decide +kernel
theorem dX12_years_93 : decode cX12_years 93 = .ok (.iload_n 1, 1) := by decide +kernel
theorem dX12_years_94 : decode cX12_years 94 = .ok (.if_icmp .ge 140, 3) := by decide +kernel
theorem dX12_years_97 : decode cX12_years 97 = .ok (.aload_n 0, 1) := by decide +kernel
theorem dX12_years_98 : decode cX12_years 98 = .ok (.getfield 39, 3) := by decide +kernel
theorem dX12_years_101 : decode cX12_years 101 = .ok (.iconst 2, 1) := by decide +kernel
theorem dX12_years_102 : decode cX12_years 102 = .ok (.iaload, 1) := by decide +kernel
theorem dX12_years_103 : decode cX12_years 103 = .ok (.ifCond .le 131, 3) := by decide +kernel
theorem dX12_years_106 : decode cX12_years 106 = .ok (.iconst 0, 1) := by decide +kernel
theorem dX12_years_107 : decode cX12_years 107 = .ok (.istore 7, 2) := by decide +kernel
theorem dX12_years_109 : decode cX12_years 109 = .ok (.iload 7, 2) := by decide +kernel
theorem dX12_years_111 : decode cX12_years 111 = .ok (.iload_n 2, 1) := by decide +kernel
theorem dX12_years_112 : decode cX12_years 112 = .ok (.if_icmp .ge 86, 3) := by decide +kernel
theorem dX12_years_115 : decode cX12_years 115 = .ok (.aload_n 0, 1) := by decide +kernel
theorem dX12_years_116 : decode cX12_years 116 = .ok (.invokevirtual 506, 3) := by decide +kernel
theorem dX12_years_119 : decode cX12_years 119 = .ok (.aload_n 0, 1) := by decide +kernel
theorem dX12_years_120 : decode cX12_years 120 = .ok (.invokevirtual 386, 3) := by decide +kernel
theorem dX12_years_123 : decode cX12_years 123 = .ok (.istore 8, 2) := by decide +kernel
theorem dX12_years_125 : decode cX12_years 125 = .ok (.iload 5, 2) := by decide +kernel
theorem dX12_years_127 : decode cX12_years 127 = .ok (.iload 8, 2) := by decide +kernel
theorem dX12_years_129 : decode cX12_years 129 = .ok (.invokestatic 389, 3) := by decide +kernel
theorem dX12_years_132 : decode cX12_years 132 = .ok (.iadd, 1) := by decide +kernel
theorem dX12_years_133 : decode cX12_years 133 = .ok (.istore 5, 2) := by decide +kernel
theorem dX12_years_135 : decode cX12_years 135 = .ok (.iconst 0, 1) := by decide +kernel
theorem dX12_years_136 : decode cX12_years 136 = .ok (.istore 9, 2) := by decide +kernel
theorem dX12_years_138 : decode cX12_years 138 = .ok (.iload 9, 2) := by decide +kernel
theorem dX12_years_140 : decode cX12_years 140 = .ok (.aload_n 0, 1) := by decide +kernel
theorem dX12_years_141 : decode cX12_years 141 = .ok (.getfield 39, 3) := by decide +kernel
theorem dX12_years_144 : decode cX12_years 144 = .ok (.iconst 3, 1) := by decide +kernel
theorem dX12_years_145 : decode cX12_years 145 = .ok (.iaload, 1) := by decide +kernel
theorem dX12_years_146 : decode cX12_years 146 = .ok (.if_icmp .ge 46, 3) := by decide +kernel
theorem dX12_years_149 : decode cX12_years 149 = .ok (.iload 8, 2) := by decide +kernel
theorem dX12_years_151 : decode cX12_years 151 = .ok (.iload 9, 2) := by decide +kernel
theorem dX12_years_153 : decode cX12_years 153 = .ok (.invokestatic 322, 3) := by decide +kernel
theorem dX12_years_156 : decode cX12_years 156 = .ok (.ifCond .eq 30, 3) := by decide +kernel
theorem dX12_years_159 : decode cX12_years 159 = .ok (.iload 4, 2) := by decide +kernel
theorem dX12_years_161 : decode cX12_years 161 = .ok (.aload_n 0, 1) := by decide +kernel
theorem dX12_years_162 : decode cX12_years 162 = .ok (.bipush 100, 2) := by decide +kernel
theorem dX12_years_164 : decode cX12_years 164 = .ok (.invokevirtual 499, 3) := by decide +kernel
theorem dX12_years_167 : decode cX12_years 167 = .ok (.aload_n 0, 1) := by decide +kernel
theorem dX12_years_168 : decode cX12_years 168 = .ok (.iload 9, 2) := by decide +kernel
theorem dX12_years_170 : decode cX12_years 170 = .ok (.bipush 7, 2) := by decide +kernel
theorem dX12_years_172 : decode cX12_years 172 = .ok (.invokevirtual 331, 3) := by decide +kernel
theorem dX12_years_175 : decode cX12_years 175 = .ok (.if_icmp .ge 7, 3) := by decide +kernel
theorem dX12_years_178 : decode cX12_years 178 = .ok (.iconst 1, 1) := by decide +kernel
theorem dX12_years_179 : decode cX12_years 179 = .ok (.goto 4, 3) := by decide +kernel
theorem dX12_years_182 : decode cX12_years 182 = .ok (.iconst 0, 1) := by decide +kernel
theorem dX12_years_183 : decode cX12_years 183 = .ok (.iadd, 1) := by decide +kernel
theorem dX12_years_184 : decode cX12_years 184 = .ok (.istore 4, 2) := by decide +kernel
theorem dX12_years_186 : decode cX12_years 186 = .ok (.iinc 9 1, 3) := by decide +kernel
theorem dX12_years_189 : decode cX12_years 189 = .ok (.goto (-51), 3) := by decide +kernel
theorem dX12_years_192 : decode cX12_years 192 = .ok (.iinc 7 1, 3) := by decide +kernel
theorem dX12_years_195 : decode cX12_years 195 = .ok (.goto (-86), 3) := by decide +kernel
theorem dX12_years_198 : decode cX12_years 198 = .ok (.iconst 0, 1) := by decide +kernel
theorem dX12_years_199 : decode cX12_years 199 = .ok (.istore 7, 2) := by decide +kernel
theorem dX12_years_201 : decode cX12_years 201 = .ok (.iload 7, 2) := by decide +kernel
theorem dX12_years_203 : decode cX12_years 203 = .ok (.bipush 111, 2) := by decide +kernel
theorem dX12_years_205 : decode cX12_years 205 = .ok (.if_icmp .ge 23, 3) := by decide +kernel
theorem dX12_years_208 : decode cX12_years 208 = .ok (.aload_n 0, 1) := by decide +kernel
theorem dX12_years_209 : decode cX12_years 209 = .ok (.getfield 39, 3) := by decide +kernel
theorem dX12_years_212 : decode cX12_years 212 = .ok (.iload 7, 2) := by decide +kernel
theorem dX12_years_214 : decode cX12_years 214 = .ok (.aload_n 0, 1) := by decide +kernel
theorem dX12_years_215 : decode cX12_years 215 = .ok (.getfield 89, 3) := by decide +kernel
theorem dX12_years_218 : decode cX12_years 218 = .ok (.iload 7, 2) := by decide +kernel
theorem dX12_years_220 : decode cX12_years 220 = .ok (.iaload, 1) := by decide +kernel
theorem dX12_years_221 : decode cX12_years 221 = .ok (.iastore, 1) := by decide +kernel
theorem dX12_years_222 : decode cX12_years 222 = .ok (.iinc 7 1, 3) := by decide +kernel
theorem dX12_years_225 : decode cX12_years 225 = .ok (.goto (-24), 3) := by decide +kernel
theorem dX12_years_228 : decode cX12_years 228 = .ok (.iinc 6 1, 3) := by decide +kernel
theorem dX12_years_231 : decode cX12_years 231 = .ok (.goto (-140), 3) := by decide +kernel
theorem dX12_years_234 : decode cX12_years 234 = .ok (.iload_n 3, 1) := by decide +kernel
theorem dX12_years_235 : decode cX12_years 235 = .ok (.ifCond .ne 8, 3) := by decide +kernel
theorem dX12_years_238 : decode cX12_years 238 = .ok (.iload 4, 2) := by decide +kernel
theorem dX12_years_240 : decode cX12_years 240 = .ok (.goto 5, 3) := by decide +kernel
theorem dX12_years_243 : decode cX12_years 243 = .ok (.iload 5, 2) := by decide +kernel
theorem dX12_years_245 : decode cX12_years 245 = .ok (.ireturn, 1) := by decide +kernel
theorem dX12_count_0 : decode cX12_count 0 = .ok (.iconst 0, 1) := by decide +kernel
theorem dX12_count_1 : decode cX12_count 1 = .ok (.istore_n 2, 1) := by decide +kernel
theorem dX12_count_2 : decode cX12_count 2 = .ok (.iload_n 1, 1) := by decide +kernel
theorem dX12_count_3 : decode cX12_count 3 = .ok (.tableswitch 199 0 14 #[73, 73, 73, 73, 80, 85, 90, 97, 97, 155, 155, 175, 184, 189, 194], 73) := by decide +kernel
theorem dX12_count_76 : decode cX12_count 76 = .ok (.aload_n 0, 1) := by decide +kernel
theorem dX12_count_77 : decode cX12_count 77 = .ok (.getfield 39, 3) := by decide +kernel
theorem dX12_count_80 : decode cX12_count 80 = .ok (.iload_n 1, 1) := by decide +kernel
theorem dX12_count_81 : decode cX12_count 81 = .ok (.iaload, 1) := by decide +kernel
theorem dX12_count_82 : decode cX12_count 82 = .ok (.ireturn, 1) := by decide +kernel
theorem dX12_count_83 : decode cX12_count 83 = .ok (.aload_n 0, 1) := by decide +kernel
theorem dX12_count_84 : decode cX12_count 84 = .ok (.getfield 288, 3) := by decide +kernel
theorem dX12_count_87 : decode cX12_count 87 = .ok (.ireturn, 1) := by decide +kernel
theorem dX12_count_88 : decode cX12_count 88 = .ok (.aload_n 0, 1) := by decide +kernel
theorem dX12_count_89 : decode cX12_count 89 = .ok (.getfield 42, 3) := by decide +kernel
theorem dX12_count_92 : decode cX12_count 92 = .ok (.ireturn, 1) := by decide +kernel
theorem dX12_count_93 : decode cX12_count 93 = .ok (.aload_n 0, 1) := by decide +kernel
theorem dX12_count_94 : decode cX12_count 94 = .ok (.getfield 39, 3) := by decide +kernel
theorem dX12_count_97 : decode cX12_count 97 = .ok (.iconst 4, 1) := by decide +kernel
theorem dX12_count_98 : decode cX12_count 98 = .ok (.iaload, 1) := by decide +kernel
theorem dX12_count_99 : decode cX12_count 99 = .ok (.ireturn, 1) := by decide +kernel
theorem dX12_count_100 : decode cX12_count 100 = .ok (.iconst 0, 1) := by decide +kernel
theorem dX12_count_101 : decode cX12_count 101 = .ok (.istore_n 3, 1) := by decide +kernel
theorem dX12_count_102 : decode cX12_count 102 = .ok (.iload_n 3, 1) := by decide +kernel
theorem dX12_count_103 : decode cX12_count 103 = .ok (.aload_n 0, 1) := by decide +kernel
theorem dX12_count_104 : decode cX12_count 104 = .ok (.getfield 39, 3) := by decide +kernel
theorem dX12_count_107 : decode cX12_count 107 = .ok (.iconst 3, 1) := by decide +kernel
theorem dX12_count_108 : decode cX12_count 108 = .ok (.iaload, 1) := by decide +kernel
theorem dX12_count_109 : decode cX12_count 109 = .ok (.if_icmp .ge 47, 3) := by decide +kernel
theorem dX12_count_112 : decode cX12_count 112 = .ok (.iload_n 2, 1) := by decide +kernel
theorem dX12_count_113 : decode cX12_count 113 = .ok (.iload_n 1, 1) := by decide +kernel
theorem dX12_count_114 : decode cX12_count 114 = .ok (.bipush 7, 2) := by decide +kernel
theorem dX12_count_116 : decode cX12_count 116 = .ok (.if_icmp .ne 15, 3) := by decide +kernel
theorem dX12_count_119 : decode cX12_count 119 = .ok (.aload_n 0, 1) := by decide +kernel
theorem dX12_count_120 : decode cX12_count 120 = .ok (.iload_n 3, 1) := by decide +kernel
theorem dX12_count_121 : decode cX12_count 121 = .ok (.iconst 4, 1) := by decide +kernel
theorem dX12_count_122 : decode cX12_count 122 = .ok (.invokevirtual 331, 3) := by decide +kernel
theorem dX12_count_125 : decode cX12_count 125 = .ok (.ifCond .lt 22, 3) := by decide +kernel
theorem dX12_count_128 : decode cX12_count 128 = .ok (.goto 13, 3) := by decide +kernel
theorem dX12_count_131 : decode cX12_count 131 = .ok (.aload_n 0, 1) := by decide +kernel
theorem dX12_count_132 : decode cX12_count 132 = .ok (.iload_n 3, 1) := by decide +kernel
theorem dX12_count_133 : decode cX12_count 133 = .ok (.bipush 9, 2) := by decide +kernel
theorem dX12_count_135 : decode cX12_count 135 = .ok (.invokevirtual 331, 3) := by decide +kernel
theorem dX12_count_138 : decode cX12_count 138 = .ok (.ifCond .le 9, 3) := by decide +kernel
theorem dX12_count_141 : decode cX12_count 141 = .ok (.iconst 1, 1) := by decide +kernel
theorem dX12_count_142 : decode cX12_count 142 = .ok (.iload_n 3, 1) := by decide +kernel
theorem dX12_count_143 : decode cX12_count 143 = .ok (.ishl, 1) := by decide +kernel
theorem dX12_count_144 : decode cX12_count 144 = .ok (.goto 4, 3) := by decide +kernel
theorem dX12_count_147 : decode cX12_count 147 = .ok (.iconst 0, 1) := by decide +kernel
theorem dX12_count_148 : decode cX12_count 148 = .ok (.ior, 1) := by decide +kernel
theorem dX12_count_149 : decode cX12_count 149 = .ok (.istore_n 2, 1) := by decide +kernel
theorem dX12_count_150 : decode cX12_count 150 = .ok (.iinc 3 1, 3) := by decide +kernel
theorem dX12_count_153 : decode cX12_count 153 = .ok (.goto (-51), 3) := by decide +kernel
theorem dX12_count_156 : decode cX12_count 156 = .ok (.iload_n 2, 1) := by decide +kernel
theorem dX12_count_157 : decode cX12_count 157 = .ok (.ireturn, 1) := by decide +kernel
theorem dX12_count_158 : decode cX12_count 158 = .ok (.aload_n 0, 1) := by decide +kernel
theorem dX12_count_159 : decode cX12_count 159 = .ok (.invokevirtual 380, 3) := by decide +kernel
theorem dX12_count_162 : decode cX12_count 162 = .ok (.ifCond .eq 14, 3) := by decide +kernel
theorem dX12_count_165 : decode cX12_count 165 = .ok (.aload_n 0, 1) := by decide +kernel
theorem dX12_count_166 : decode cX12_count 166 = .ok (.getfield 39, 3) := by decide +kernel
theorem dX12_count_169 : decode cX12_count 169 = .ok (.iload_n 1, 1) := by decide +kernel
theorem dX12_count_170 : decode cX12_count 170 = .ok (.iconst 4, 1) := by decide +kernel
theorem dX12_count_171 : decode cX12_count 171 = .ok (.isub, 1) := by decide +kernel
theorem dX12_count_172 : decode cX12_count 172 = .ok (.iaload, 1) := by decide +kernel
theorem dX12_count_173 : decode cX12_count 173 = .ok (.goto 4, 3) := by decide +kernel
theorem dX12_count_176 : decode cX12_count 176 = .ok (.iconst (-1), 1) := by decide +kernel
theorem dX12_count_177 : decode cX12_count 177 = .ok (.ireturn, 1) := by decide +kernel
theorem dX12_count_178 : decode cX12_count 178 = .ok (.aload_n 0, 1) := by decide +kernel
theorem dX12_count_179 : decode cX12_count 179 = .ok (.getfield 39, 3) := by decide +kernel
theorem dX12_count_182 : decode cX12_count 182 = .ok (.sipush 141, 3) := by decide +kernel
theorem dX12_count_185 : decode cX12_count 185 = .ok (.iaload, 1) := by decide +kernel
theorem dX12_count_186 : decode cX12_count 186 = .ok (.ireturn, 1) := by decide +kernel
theorem dX12_count_187 : decode cX12_count 187 = .ok (.aload_n 0, 1) := by decide +kernel
theorem dX12_count_188 : decode cX12_count 188 = .ok (.getfield 294, 3) := by decide +kernel
theorem dX12_count_191 : decode cX12_count 191 = .ok (.ireturn, 1) := by decide +kernel
theorem dX12_count_192 : decode cX12_count 192 = .ok (.aload_n 0, 1) := by decide +kernel
theorem dX12_count_193 : decode cX12_count 193 = .ok (.getfield 484, 3) := by decide +kernel
theorem dX12_count_196 : decode cX12_count 196 = .ok (.ireturn, 1) := by decide +kernel
theorem dX12_count_197 : decode cX12_count 197 = .ok (.aload_n 0, 1) := by decide +kernel
theorem dX12_count_198 : decode cX12_count 198 = .ok (.getfield 104, 3) := by decide +kernel
theorem dX12_count_201 : decode cX12_count 201 = .ok (.ireturn, 1) := by decide +kernel
theorem dX12_count_202 : decode cX12_count 202 = .ok (.iconst (-1), 1) := by decide +kernel
theorem dX12_count_203 : decode cX12_count 203 = .ok (.ireturn, 1) := by decide +kernel
theorem dX12_image_0 : decode cX12_image 0 = .ok (.iload_n 1, 1) := by decide +kernel
theorem dX12_image_1 : decode cX12_image 1 = .ok (.i2l, 1) := by decide +kernel
theorem dX12_image_2 : decode cX12_image 2 = .ok (.lconst 0, 1) := by decide +kernel
theorem dX12_image_3 : decode cX12_image 3 = .ok (.ldc2_w 462, 3) := by decide +kernel
theorem dX12_image_6 : decode cX12_image 6 = .ok (.invokestatic 142, 3) := by decide +kernel
theorem dX12_image_9 : decode cX12_image 9 = .ok (.ifCond .ne 5, 3) := by decide +kernel
theorem dX12_image_12 : decode cX12_image 12 = .ok (.iconst (-1), 1) := by decide +kernel
theorem dX12_image_13 : decode cX12_image 13 = .ok (.ireturn, 1) := by decide +kernel
theorem dX12_image_14 : decode cX12_image 14 = .ok (.aload_n 0, 1) := by decide +kernel
theorem dX12_image_15 : decode cX12_image 15 = .ok (.getfield 101, 3) := by decide +kernel
theorem dX12_image_18 : decode cX12_image 18 = .ok (.iload_n 1, 1) := by decide +kernel
theorem dX12_image_19 : decode cX12_image 19 = .ok (.iconst 1, 1) := by decide +kernel
theorem dX12_image_20 : decode cX12_image 20 = .ok (.bastore, 1) := by decide +kernel
theorem dX12_image_21 : decode cX12_image 21 = .ok (.aload_n 0, 1) := by decide +kernel
theorem dX12_image_22 : decode cX12_image 22 = .ok (.getfield 95, 3) := by decide +kernel
theorem dX12_image_25 : decode cX12_image 25 = .ok (.iload_n 1, 1) := by decide +kernel
theorem dX12_image_26 : decode cX12_image 26 = .ok (.aload_n 0, 1) := by decide +kernel
theorem dX12_image_27 : decode cX12_image 27 = .ok (.getfield 42, 3) := by decide +kernel
theorem dX12_image_30 : decode cX12_image 30 = .ok (.iastore, 1) := by decide +kernel
theorem dX12_image_31 : decode cX12_image 31 = .ok (.aload_n 0, 1) := by decide +kernel
theorem dX12_image_32 : decode cX12_image 32 = .ok (.getfield 98, 3) := by decide +kernel
theorem dX12_image_35 : decode cX12_image 35 = .ok (.iload_n 1, 1) := by decide +kernel
theorem dX12_image_36 : decode cX12_image 36 = .ok (.aload_n 0, 1) := by decide +kernel
theorem dX12_image_37 : decode cX12_image 37 = .ok (.getfield 484, 3) := by decide +kernel
theorem dX12_image_40 : decode cX12_image 40 = .ok (.iastore, 1) := by decide +kernel
theorem dX12_image_41 : decode cX12_image 41 = .ok (.iconst 0, 1) := by decide +kernel
theorem dX12_image_42 : decode cX12_image 42 = .ok (.istore_n 2, 1) := by decide +kernel
theorem dX12_image_43 : decode cX12_image 43 = .ok (.iload_n 2, 1) := by decide +kernel
theorem dX12_image_44 : decode cX12_image 44 = .ok (.sipush 142, 3) := by decide +kernel
theorem dX12_image_47 : decode cX12_image 47 = .ok (.if_icmp .ge 27, 3) := by decide +kernel
theorem dX12_image_50 : decode cX12_image 50 = .ok (.aload_n 0, 1) := by decide +kernel
theorem dX12_image_51 : decode cX12_image 51 = .ok (.getfield 92, 3) := by decide +kernel
theorem dX12_image_54 : decode cX12_image 54 = .ok (.sipush 142, 3) := by decide +kernel
theorem dX12_image_57 : decode cX12_image 57 = .ok (.iload_n 1, 1) := by decide +kernel
theorem dX12_image_58 : decode cX12_image 58 = .ok (.imul, 1) := by decide +kernel
theorem dX12_image_59 : decode cX12_image 59 = .ok (.iload_n 2, 1) := by decide +kernel
theorem dX12_image_60 : decode cX12_image 60 = .ok (.iadd, 1) := by decide +kernel
theorem dX12_image_61 : decode cX12_image 61 = .ok (.aload_n 0, 1) := by decide +kernel
theorem dX12_image_62 : decode cX12_image 62 = .ok (.getfield 39, 3) := by decide +kernel
theorem dX12_image_65 : decode cX12_image 65 = .ok (.iload_n 2, 1) := by decide +kernel
theorem dX12_image_66 : decode cX12_image 66 = .ok (.iaload, 1) := by decide +kernel
theorem dX12_image_67 : decode cX12_image 67 = .ok (.iastore, 1) := by decide +kernel
theorem dX12_image_68 : decode cX12_image 68 = .ok (.iinc 2 1, 3) := by decide +kernel
theorem dX12_image_71 : decode cX12_image 71 = .ok (.goto (-28), 3) := by decide +kernel
theorem dX12_image_74 : decode cX12_image 74 = .ok (.aload_n 0, 1) := by decide +kernel
theorem dX12_image_75 : decode cX12_image 75 = .ok (.getfield 39, 3) := by decide +kernel
theorem dX12_image_78 : decode cX12_image 78 = .ok (.iconst 4, 1) := by decide +kernel
theorem dX12_image_79 : decode cX12_image 79 = .ok (.iaload, 1) := by decide +kernel
theorem dX12_image_80 : decode cX12_image 80 = .ok (.ireturn, 1) := by decide +kernel
theorem dX12_back_0 : decode cX12_back 0 = .ok (.iload_n 1, 1) := by decide +kernel
theorem dX12_back_1 : decode cX12_back 1 = .ok (.i2l, 1) := by decide +kernel
theorem dX12_back_2 : decode cX12_back 2 = .ok (.lconst 0, 1) := by decide +kernel
theorem dX12_back_3 : decode cX12_back 3 = .ok (.ldc2_w 462, 3) := by decide +kernel
theorem dX12_back_6 : decode cX12_back 6 = .ok (.invokestatic 142, 3) := by decide +kernel
theorem dX12_back_9 : decode cX12_back 9 = .ok (.ifCond .eq 12, 3) := by decide +kernel
theorem dX12_back_12 : decode cX12_back 12 = .ok (.aload_n 0, 1) := by decide +kernel
theorem dX12_back_13 : decode cX12_back 13 = .ok (.getfield 101, 3) := by decide +kernel
theorem dX12_back_16 : decode cX12_back 16 = .ok (.iload_n 1, 1) := by decide +kernel
theorem dX12_back_17 : decode cX12_back 17 = .ok (.baload, 1) := by decide +kernel
theorem dX12_back_18 : decode cX12_back 18 = .ok (.ifCond .ne 5, 3) := by decide +kernel
theorem dX12_back_21 : decode cX12_back 21 = .ok (.iconst (-1), 1) := by decide +kernel
theorem dX12_back_22 : decode cX12_back 22 = .ok (.ireturn, 1) := by decide +kernel
theorem dX12_back_23 : decode cX12_back 23 = .ok (.aload_n 0, 1) := by decide +kernel
theorem dX12_back_24 : decode cX12_back 24 = .ok (.aload_n 0, 1) := by decide +kernel
theorem dX12_back_25 : decode cX12_back 25 = .ok (.getfield 95, 3) := by decide +kernel
theorem dX12_back_28 : decode cX12_back 28 = .ok (.iload_n 1, 1) := by decide +kernel
theorem dX12_back_29 : decode cX12_back 29 = .ok (.iaload, 1) := by decide +kernel
theorem dX12_back_30 : decode cX12_back 30 = .ok (.putfield 42, 3) := by decide +kernel
theorem dX12_back_33 : decode cX12_back 33 = .ok (.aload_n 0, 1) := by decide +kernel
theorem dX12_back_34 : decode cX12_back 34 = .ok (.aload_n 0, 1) := by decide +kernel
theorem dX12_back_35 : decode cX12_back 35 = .ok (.getfield 98, 3) := by decide +kernel
theorem dX12_back_38 : decode cX12_back 38 = .ok (.iload_n 1, 1) := by decide +kernel
theorem dX12_back_39 : decode cX12_back 39 = .ok (.iaload, 1) := by decide +kernel
theorem dX12_back_40 : decode cX12_back 40 = .ok (.putfield 484, 3) := by decide +kernel
theorem dX12_back_43 : decode cX12_back 43 = .ok (.aload_n 0, 1) := by decide +kernel
theorem dX12_back_44 : decode cX12_back 44 = .ok (.iconst 0, 1) := by decide +kernel
theorem dX12_back_45 : decode cX12_back 45 = .ok (.putfield 294, 3) := by decide +kernel
theorem dX12_back_48 : decode cX12_back 48 = .ok (.iconst 0, 1) := by decide +kernel
theorem dX12_back_49 : decode cX12_back 49 = .ok (.istore_n 2, 1) := by decide +kernel
theorem dX12_back_50 : decode cX12_back 50 = .ok (.iload_n 2, 1) := by decide +kernel
theorem dX12_back_51 : decode cX12_back 51 = .ok (.sipush 142, 3) := by decide +kernel
theorem dX12_back_54 : decode cX12_back 54 = .ok (.if_icmp .ge 27, 3) := by decide +kernel
theorem dX12_back_57 : decode cX12_back 57 = .ok (.aload_n 0, 1) := by decide +kernel
theorem dX12_back_58 : decode cX12_back 58 = .ok (.getfield 39, 3) := by decide +kernel
theorem dX12_back_61 : decode cX12_back 61 = .ok (.iload_n 2, 1) := by decide +kernel
theorem dX12_back_62 : decode cX12_back 62 = .ok (.aload_n 0, 1) := by decide +kernel
theorem dX12_back_63 : decode cX12_back 63 = .ok (.getfield 92, 3) := by decide +kernel
theorem dX12_back_66 : decode cX12_back 66 = .ok (.sipush 142, 3) := by decide +kernel
theorem dX12_back_69 : decode cX12_back 69 = .ok (.iload_n 1, 1) := by decide +kernel
theorem dX12_back_70 : decode cX12_back 70 = .ok (.imul, 1) := by decide +kernel
theorem dX12_back_71 : decode cX12_back 71 = .ok (.iload_n 2, 1) := by decide +kernel
theorem dX12_back_72 : decode cX12_back 72 = .ok (.iadd, 1) := by decide +kernel
theorem dX12_back_73 : decode cX12_back 73 = .ok (.iaload, 1) := by decide +kernel
theorem dX12_back_74 : decode cX12_back 74 = .ok (.iastore, 1) := by decide +kernel
theorem dX12_back_75 : decode cX12_back 75 = .ok (.iinc 2 1, 3) := by decide +kernel
theorem dX12_back_78 : decode cX12_back 78 = .ok (.goto (-28), 3) := by decide +kernel
theorem dX12_back_81 : decode cX12_back 81 = .ok (.aload_n 0, 1) := by decide +kernel
theorem dX12_back_82 : decode cX12_back 82 = .ok (.getfield 39, 3) := by decide +kernel
theorem dX12_back_85 : decode cX12_back 85 = .ok (.iconst 4, 1) := by decide +kernel
theorem dX12_back_86 : decode cX12_back 86 = .ok (.iaload, 1) := by decide +kernel
theorem dX12_back_87 : decode cX12_back 87 = .ok (.ireturn, 1) := by decide +kernel
