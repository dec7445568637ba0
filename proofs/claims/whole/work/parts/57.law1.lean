theorem kL_97 : Cond.methodLink RL 97 yL_feed ∈ GW := gw_mem 809 (by decide +kernel) (by decide +kernel)
theorem kL_102 : Cond.methodLink RL 102 yX10_feed ∈ GW := gw_mem 1274 (by decide +kernel) (by decide +kernel)
theorem bX10_feed : CBv yX10_feed cX10_feed 8 (some .int) 5 := ⟨⟨gw_mem 1277 (by decide +kernel) (by decide +kernel), gw_mem 14 (by decide +kernel) (by decide +kernel), by decide +kernel, by decide⟩, gw_mem 1275 (by decide +kernel) (by decide +kernel), gw_mem 1276 (by decide +kernel) (by decide +kernel)⟩
theorem kL_103 : Cond.methodLink RL 103 yX10_thrown ∈ GW := gw_mem 1270 (by decide +kernel) (by decide +kernel)
theorem bX10_thrown : CBv yX10_thrown cX10_thrown 1 (some .int) 0 := ⟨⟨gw_mem 1273 (by decide +kernel) (by decide +kernel), gw_mem 14 (by decide +kernel) (by decide +kernel), by decide +kernel, by decide⟩, gw_mem 1271 (by decide +kernel) (by decide +kernel), gw_mem 1272 (by decide +kernel) (by decide +kernel)⟩
theorem kL_106 : Cond.methodLink RL 106 yL_trim ∈ GW := gw_mem 888 (by decide +kernel) (by decide +kernel)
theorem kL_109 : Cond.methodLink RL 109 yX10_trim ∈ GW := gw_mem 1282 (by decide +kernel) (by decide +kernel)
theorem bX10_trim : CBv yX10_trim cX10_trim 2 (some .int) 1 := ⟨⟨gw_mem 1285 (by decide +kernel) (by decide +kernel), gw_mem 14 (by decide +kernel) (by decide +kernel), by decide +kernel, by decide⟩, gw_mem 1283 (by decide +kernel) (by decide +kernel), gw_mem 1284 (by decide +kernel) (by decide +kernel)⟩
theorem kL_110 : Cond.methodLink RL 110 yX8_teach ∈ GW := gw_mem 363 (by decide +kernel) (by decide +kernel)
theorem bX8_teach : CBv yX8_teach cX8_teach 2 (some .int) 0 := ⟨⟨gw_mem 366 (by decide +kernel) (by decide +kernel), gw_mem 1 (by decide +kernel) (by decide +kernel), by decide +kernel, by decide⟩, gw_mem 364 (by decide +kernel) (by decide +kernel), gw_mem 365 (by decide +kernel) (by decide +kernel)⟩
theorem kL_113 : Cond.methodLink RL 113 yX10_teach ∈ GW := gw_mem 1289 (by decide +kernel) (by decide +kernel)
theorem bX10_teach : CBv yX10_teach cX10_teach 2 (some .int) 0 := ⟨⟨gw_mem 1292 (by decide +kernel) (by decide +kernel), gw_mem 14 (by decide +kernel) (by decide +kernel), by decide +kernel, by decide⟩, gw_mem 1290 (by decide +kernel) (by decide +kernel), gw_mem 1291 (by decide +kernel) (by decide +kernel)⟩
theorem kL_114 : Cond.methodLink RL 114 yX8_errorAt ∈ GW := gw_mem 556 (by decide +kernel) (by decide +kernel)
theorem bX8_errorAt : CBv yX8_errorAt cX8_errorAt 1 (some .int) 0 := ⟨⟨gw_mem 559 (by decide +kernel) (by decide +kernel), gw_mem 1 (by decide +kernel) (by decide +kernel), by decide +kernel, by decide⟩, gw_mem 557 (by decide +kernel) (by decide +kernel), gw_mem 558 (by decide +kernel) (by decide +kernel)⟩
theorem kL_117 : Cond.methodLink RL 117 yX10_errorAt ∈ GW := gw_mem 1520 (by decide +kernel) (by decide +kernel)
theorem bX10_errorAt : CBv yX10_errorAt cX10_errorAt 1 (some .int) 0 := ⟨⟨gw_mem 1523 (by decide +kernel) (by decide +kernel), gw_mem 14 (by decide +kernel) (by decide +kernel), by decide +kernel, by decide⟩, gw_mem 1521 (by decide +kernel) (by decide +kernel), gw_mem 1522 (by decide +kernel) (by decide +kernel)⟩
theorem kL_118 : Cond.methodLink RL 118 yX8_families ∈ GW := gw_mem 560 (by decide +kernel) (by decide +kernel)
theorem bX8_families : CBv yX8_families cX8_families 1 (some .int) 0 := ⟨⟨gw_mem 563 (by decide +kernel) (by decide +kernel), gw_mem 1 (by decide +kernel) (by decide +kernel), by decide +kernel, by decide⟩, gw_mem 561 (by decide +kernel) (by decide +kernel), gw_mem 562 (by decide +kernel) (by decide +kernel)⟩
theorem kL_121 : Cond.methodLink RL 121 yX10_families ∈ GW := gw_mem 1528 (by decide +kernel) (by decide +kernel)
theorem bX10_families : CBv yX10_families cX10_families 1 (some .int) 0 := ⟨⟨gw_mem 1531 (by decide +kernel) (by decide +kernel), gw_mem 14 (by decide +kernel) (by decide +kernel), by decide +kernel, by decide⟩, gw_mem 1529 (by decide +kernel) (by decide +kernel), gw_mem 1530 (by decide +kernel) (by decide +kernel)⟩
theorem kL_122 : Cond.methodLink RL 122 yX8_statements ∈ GW := gw_mem 564 (by decide +kernel) (by decide +kernel)
theorem bX8_statements : CBv yX8_statements cX8_statements 1 (some .int) 0 := ⟨⟨gw_mem 567 (by decide +kernel) (by decide +kernel), gw_mem 1 (by decide +kernel) (by decide +kernel), by decide +kernel, by decide⟩, gw_mem 565 (by decide +kernel) (by decide +kernel), gw_mem 566 (by decide +kernel) (by decide +kernel)⟩
theorem kL_125 : Cond.methodLink RL 125 yX10_statements ∈ GW := gw_mem 1532 (by decide +kernel) (by decide +kernel)
theorem bX10_statements : CBv yX10_statements cX10_statements 1 (some .int) 0 := ⟨⟨gw_mem 1535 (by decide +kernel) (by decide +kernel), gw_mem 14 (by decide +kernel) (by decide +kernel), by decide +kernel, by decide⟩, gw_mem 1533 (by decide +kernel) (by decide +kernel), gw_mem 1534 (by decide +kernel) (by decide +kernel)⟩
theorem kL_126 : Cond.methodLink RL 126 yX8_orders ∈ GW := gw_mem 568 (by decide +kernel) (by decide +kernel)
theorem bX8_orders : CBv yX8_orders cX8_orders 1 (some .int) 0 := ⟨⟨gw_mem 571 (by decide +kernel) (by decide +kernel), gw_mem 1 (by decide +kernel) (by decide +kernel), by decide +kernel, by decide⟩, gw_mem 569 (by decide +kernel) (by decide +kernel), gw_mem 570 (by decide +kernel) (by decide +kernel)⟩
theorem kL_129 : Cond.methodLink RL 129 yX10_orders ∈ GW := gw_mem 1536 (by decide +kernel) (by decide +kernel)
theorem bX10_orders : CBv yX10_orders cX10_orders 1 (some .int) 0 := ⟨⟨gw_mem 1539 (by decide +kernel) (by decide +kernel), gw_mem 14 (by decide +kernel) (by decide +kernel), by decide +kernel, by decide⟩, gw_mem 1537 (by decide +kernel) (by decide +kernel), gw_mem 1538 (by decide +kernel) (by decide +kernel)⟩
theorem kL_130 : Cond.methodLink RL 130 yX8_days ∈ GW := gw_mem 572 (by decide +kernel) (by decide +kernel)
theorem bX8_days : CBv yX8_days cX8_days 1 (some .int) 0 := ⟨⟨gw_mem 575 (by decide +kernel) (by decide +kernel), gw_mem 1 (by decide +kernel) (by decide +kernel), by decide +kernel, by decide⟩, gw_mem 573 (by decide +kernel) (by decide +kernel), gw_mem 574 (by decide +kernel) (by decide +kernel)⟩
theorem kL_133 : Cond.methodLink RL 133 yX10_days ∈ GW := gw_mem 1540 (by decide +kernel) (by decide +kernel)
theorem bX10_days : CBv yX10_days cX10_days 1 (some .int) 0 := ⟨⟨gw_mem 1543 (by decide +kernel) (by decide +kernel), gw_mem 14 (by decide +kernel) (by decide +kernel), by decide +kernel, by decide⟩, gw_mem 1541 (by decide +kernel) (by decide +kernel), gw_mem 1542 (by decide +kernel) (by decide +kernel)⟩
theorem kL_134 : Cond.methodLink RL 134 yX8_ordersCarriedOut ∈ GW := gw_mem 576 (by decide +kernel) (by decide +kernel)
theorem bX8_ordersCarriedOut : CBv yX8_ordersCarriedOut cX8_ordersCarriedOut 1 (some .int) 0 := ⟨⟨gw_mem 579 (by decide +kernel) (by decide +kernel), gw_mem 1 (by decide +kernel) (by decide +kernel), by decide +kernel, by decide⟩, gw_mem 577 (by decide +kernel) (by decide +kernel), gw_mem 578 (by decide +kernel) (by decide +kernel)⟩
theorem kL_137 : Cond.methodLink RL 137 yX10_ordersCarriedOut ∈ GW := gw_mem 1544 (by decide +kernel) (by decide +kernel)
theorem bX10_ordersCarriedOut : CBv yX10_ordersCarriedOut cX10_ordersCarriedOut 1 (some .int) 0 := ⟨⟨gw_mem 1547 (by decide +kernel) (by decide +kernel), gw_mem 14 (by decide +kernel) (by decide +kernel), by decide +kernel, by decide⟩, gw_mem 1545 (by decide +kernel) (by decide +kernel), gw_mem 1546 (by decide +kernel) (by decide +kernel)⟩
theorem kL_138 : Cond.methodLink RL 138 yX8_tapeBytes ∈ GW := gw_mem 580 (by decide +kernel) (by decide +kernel)
theorem bX8_tapeBytes : CBv yX8_tapeBytes cX8_tapeBytes 1 (some .int) 0 := ⟨⟨gw_mem 583 (by decide +kernel) (by decide +kernel), gw_mem 1 (by decide +kernel) (by decide +kernel), by decide +kernel, by decide⟩, gw_mem 581 (by decide +kernel) (by decide +kernel), gw_mem 582 (by decide +kernel) (by decide +kernel)⟩
theorem kL_141 : Cond.methodLink RL 141 yX10_tapeBytes ∈ GW := gw_mem 1548 (by decide +kernel) (by decide +kernel)
theorem bX10_tapeBytes : CBv yX10_tapeBytes cX10_tapeBytes 1 (some .int) 0 := ⟨⟨gw_mem 1551 (by decide +kernel) (by decide +kernel), gw_mem 14 (by decide +kernel) (by decide +kernel), by decide +kernel, by decide⟩, gw_mem 1549 (by decide +kernel) (by decide +kernel), gw_mem 1550 (by decide +kernel) (by decide +kernel)⟩
theorem kL_142 : Cond.methodLink RL 142 yX8_standing ∈ GW := gw_mem 584 (by decide +kernel) (by decide +kernel)
theorem bX8_standing : CBv yX8_standing cX8_standing 1 (some .int) 0 := ⟨⟨gw_mem 587 (by decide +kernel) (by decide +kernel), gw_mem 1 (by decide +kernel) (by decide +kernel), by decide +kernel, by decide⟩, gw_mem 585 (by decide +kernel) (by decide +kernel), gw_mem 586 (by decide +kernel) (by decide +kernel)⟩
theorem kL_145 : Cond.methodLink RL 145 yX10_standing ∈ GW := gw_mem 1552 (by decide +kernel) (by decide +kernel)
theorem bX10_standing : CBv yX10_standing cX10_standing 1 (some .int) 0 := ⟨⟨gw_mem 1555 (by decide +kernel) (by decide +kernel), gw_mem 14 (by decide +kernel) (by decide +kernel), by decide +kernel, by decide⟩, gw_mem 1553 (by decide +kernel) (by decide +kernel), gw_mem 1554 (by decide +kernel) (by decide +kernel)⟩
theorem kL_146 : Cond.methodLink RL 146 yL_kindOf ∈ GW := gw_mem 912 (by decide +kernel) (by decide +kernel)
theorem kL_148 : Cond.methodLink RL 148 yX10_kindOf ∈ GW := gw_mem 1557 (by decide +kernel) (by decide +kernel)
theorem bX10_kindOf : CBv yX10_kindOf cX10_kindOf 2 (some .int) 1 := ⟨⟨gw_mem 1560 (by decide +kernel) (by decide +kernel), gw_mem 14 (by decide +kernel) (by decide +kernel), by decide +kernel, by decide⟩, gw_mem 1558 (by decide +kernel) (by decide +kernel), gw_mem 1559 (by decide +kernel) (by decide +kernel)⟩
theorem kL_149 : Cond.methodLink RL 149 yL_firstClaimOf ∈ GW := gw_mem 940 (by decide +kernel) (by decide +kernel)
theorem kL_151 : Cond.methodLink RL 151 yX10_firstClaimOf ∈ GW := gw_mem 1569 (by decide +kernel) (by decide +kernel)
theorem bX10_firstClaimOf : CBv yX10_firstClaimOf cX10_firstClaimOf 2 (some .int) 1 := ⟨⟨gw_mem 1572 (by decide +kernel) (by decide +kernel), gw_mem 14 (by decide +kernel) (by decide +kernel), by decide +kernel, by decide⟩, gw_mem 1570 (by decide +kernel) (by decide +kernel), gw_mem 1571 (by decide +kernel) (by decide +kernel)⟩
theorem kL_152 : Cond.methodLink RL 152 yL_secondClaimOf ∈ GW := gw_mem 947 (by decide +kernel) (by decide +kernel)
theorem kL_154 : Cond.methodLink RL 154 yX10_secondClaimOf ∈ GW := gw_mem 1573 (by decide +kernel) (by decide +kernel)
theorem bX10_secondClaimOf : CBv yX10_secondClaimOf cX10_secondClaimOf 2 (some .int) 1 := ⟨⟨gw_mem 1576 (by decide +kernel) (by decide +kernel), gw_mem 14 (by decide +kernel) (by decide +kernel), by decide +kernel, by decide⟩, gw_mem 1574 (by decide +kernel) (by decide +kernel), gw_mem 1575 (by decide +kernel) (by decide +kernel)⟩
theorem kL_155 : Cond.methodLink RL 155 yL_stands ∈ GW := gw_mem 954 (by decide +kernel) (by decide +kernel)
theorem kL_157 : Cond.methodLink RL 157 yX10_stands ∈ GW := gw_mem 1577 (by decide +kernel) (by decide +kernel)
theorem bX10_stands : CBv yX10_stands cX10_stands 2 (some .boolean) 1 := ⟨⟨gw_mem 1580 (by decide +kernel) (by decide +kernel), gw_mem 14 (by decide +kernel) (by decide +kernel), by decide +kernel, by decide⟩, gw_mem 1578 (by decide +kernel) (by decide +kernel), gw_mem 1579 (by decide +kernel) (by decide +kernel)⟩
theorem kL_158 : Cond.methodLink RL 158 yL_isNeedless ∈ GW := gw_mem 961 (by decide +kernel) (by decide +kernel)
theorem kL_160 : Cond.methodLink RL 160 yX10_isNeedless ∈ GW := gw_mem 1588 (by decide +kernel) (by decide +kernel)
theorem bX10_isNeedless : CBv yX10_isNeedless cX10_isNeedless 3 (some .boolean) 1 := ⟨⟨gw_mem 1591 (by decide +kernel) (by decide +kernel), gw_mem 14 (by decide +kernel) (by decide +kernel), by decide +kernel, by decide⟩, gw_mem 1589 (by decide +kernel) (by decide +kernel), gw_mem 1590 (by decide +kernel) (by decide +kernel)⟩
theorem kL_161 : Cond.methodLink RL 161 yL_follows ∈ GW := gw_mem 974 (by decide +kernel) (by decide +kernel)
theorem kL_164 : Cond.methodLink RL 164 yX10_follows ∈ GW := gw_mem 1622 (by decide +kernel) (by decide +kernel)
theorem bX10_follows : CBv yX10_follows cX10_follows 3 (some .boolean) 2 := ⟨⟨gw_mem 1625 (by decide +kernel) (by decide +kernel), gw_mem 14 (by decide +kernel) (by decide +kernel), by decide +kernel, by decide⟩, gw_mem 1623 (by decide +kernel) (by decide +kernel), gw_mem 1624 (by decide +kernel) (by decide +kernel)⟩
theorem kL_165 : Cond.methodLink RL 165 yL_whatFollowsFrom ∈ GW := gw_mem 986 (by decide +kernel) (by decide +kernel)
theorem kL_167 : Cond.methodLink RL 167 yX10_whatFollowsFrom ∈ GW := gw_mem 1646 (by decide +kernel) (by decide +kernel)
theorem bX10_whatFollowsFrom : CBv yX10_whatFollowsFrom cX10_whatFollowsFrom 2 (some .int) 1 := ⟨⟨gw_mem 1649 (by decide +kernel) (by decide +kernel), gw_mem 14 (by decide +kernel) (by decide +kernel), by decide +kernel, by decide⟩, gw_mem 1647 (by decide +kernel) (by decide +kernel), gw_mem 1648 (by decide +kernel) (by decide +kernel)⟩
theorem kL_168 : Cond.methodLink RL 168 yL_fewestStatementsBetween ∈ GW := gw_mem 993 (by decide +kernel) (by decide +kernel)
theorem kL_170 : Cond.methodLink RL 170 yX10_fewestStatementsBetween ∈ GW := gw_mem 1654 (by decide +kernel) (by decide +kernel)
theorem bX10_fewestStatementsBetween : CBv yX10_fewestStatementsBetween cX10_fewestStatementsBetween 3 (some .int) 2 := ⟨⟨gw_mem 1657 (by decide +kernel) (by decide +kernel), gw_mem 14 (by decide +kernel) (by decide +kernel), by decide +kernel, by decide⟩, gw_mem 1655 (by decide +kernel) (by decide +kernel), gw_mem 1656 (by decide +kernel) (by decide +kernel)⟩
theorem kL_171 : Cond.methodLink RL 171 yX8_parts ∈ GW := gw_mem 594 (by decide +kernel) (by decide +kernel)
theorem bX8_parts : CBv yX8_parts cX8_parts 1 (some .int) 0 := ⟨⟨gw_mem 597 (by decide +kernel) (by decide +kernel), gw_mem 1 (by decide +kernel) (by decide +kernel), by decide +kernel, by decide⟩, gw_mem 595 (by decide +kernel) (by decide +kernel), gw_mem 596 (by decide +kernel) (by decide +kernel)⟩
theorem kL_174 : Cond.methodLink RL 174 yX10_parts ∈ GW := gw_mem 1666 (by decide +kernel) (by decide +kernel)
theorem bX10_parts : CBv yX10_parts cX10_parts 1 (some .int) 0 := ⟨⟨gw_mem 1669 (by decide +kernel) (by decide +kernel), gw_mem 14 (by decide +kernel) (by decide +kernel), by decide +kernel, by decide⟩, gw_mem 1667 (by decide +kernel) (by decide +kernel), gw_mem 1668 (by decide +kernel) (by decide +kernel)⟩
theorem kL_175 : Cond.methodLink RL 175 yL_partOf ∈ GW := gw_mem 1009 (by decide +kernel) (by decide +kernel)
theorem kL_177 : Cond.methodLink RL 177 yX10_partOf ∈ GW := gw_mem 1674 (by decide +kernel) (by decide +kernel)
theorem bX10_partOf : CBv yX10_partOf cX10_partOf 2 (some .int) 1 := ⟨⟨gw_mem 1677 (by decide +kernel) (by decide +kernel), gw_mem 14 (by decide +kernel) (by decide +kernel), by decide +kernel, by decide⟩, gw_mem 1675 (by decide +kernel) (by decide +kernel), gw_mem 1676 (by decide +kernel) (by decide +kernel)⟩
theorem kL_178 : Cond.methodLink RL 178 yL_partSize ∈ GW := gw_mem 1016 (by decide +kernel) (by decide +kernel)
theorem kL_180 : Cond.methodLink RL 180 yX10_partSize ∈ GW := gw_mem 1682 (by decide +kernel) (by decide +kernel)
theorem bX10_partSize : CBv yX10_partSize cX10_partSize 2 (some .int) 1 := ⟨⟨gw_mem 1685 (by decide +kernel) (by decide +kernel), gw_mem 14 (by decide +kernel) (by decide +kernel), by decide +kernel, by decide⟩, gw_mem 1683 (by decide +kernel) (by decide +kernel), gw_mem 1684 (by decide +kernel) (by decide +kernel)⟩
theorem kL_181 : Cond.methodLink RL 181 yX8_isPeacePossible ∈ GW := gw_mem 631 (by decide +kernel) (by decide +kernel)
theorem bX8_isPeacePossible : CBv yX8_isPeacePossible cX8_isPeacePossible 1 (some .boolean) 0 := ⟨⟨gw_mem 634 (by decide +kernel) (by decide +kernel), gw_mem 1 (by decide +kernel) (by decide +kernel), by decide +kernel, by decide⟩, gw_mem 632 (by decide +kernel) (by decide +kernel), gw_mem 633 (by decide +kernel) (by decide +kernel)⟩
theorem kL_185 : Cond.methodLink RL 185 yX10_isPeacePossible ∈ GW := gw_mem 1690 (by decide +kernel) (by decide +kernel)
theorem bX10_isPeacePossible : CBv yX10_isPeacePossible cX10_isPeacePossible 1 (some .boolean) 0 := ⟨⟨gw_mem 1693 (by decide +kernel) (by decide +kernel), gw_mem 14 (by decide +kernel) (by decide +kernel), by decide +kernel, by decide⟩, gw_mem 1691 (by decide +kernel) (by decide +kernel), gw_mem 1692 (by decide +kernel) (by decide +kernel)⟩
theorem kL_186 : Cond.methodLink RL 186 yX8_peaces ∈ GW := gw_mem 657 (by decide +kernel) (by decide +kernel)
theorem bX8_peaces : CBv yX8_peaces cX8_peaces 1 (some .int) 0 := ⟨⟨gw_mem 660 (by decide +kernel) (by decide +kernel), gw_mem 1 (by decide +kernel) (by decide +kernel), by decide +kernel, by decide⟩, gw_mem 658 (by decide +kernel) (by decide +kernel), gw_mem 659 (by decide +kernel) (by decide +kernel)⟩
theorem kL_189 : Cond.methodLink RL 189 yX10_peaces_ ∈ GW := gw_mem 1694 (by decide +kernel) (by decide +kernel)
theorem bX10_peaces_ : CBv yX10_peaces_ cX10_peaces_ 1 (some .int) 0 := ⟨⟨gw_mem 1697 (by decide +kernel) (by decide +kernel), gw_mem 14 (by decide +kernel) (by decide +kernel), by decide +kernel, by decide⟩, gw_mem 1695 (by decide +kernel) (by decide +kernel), gw_mem 1696 (by decide +kernel) (by decide +kernel)⟩
theorem kL_190 : Cond.methodLink RL 190 yL_peacesWith ∈ GW := gw_mem 1023 (by decide +kernel) (by decide +kernel)
theorem kL_192 : Cond.methodLink RL 192 yX10_peacesWith ∈ GW := gw_mem 1698 (by decide +kernel) (by decide +kernel)
theorem bX10_peacesWith : CBv yX10_peacesWith cX10_peacesWith 2 (some .int) 1 := ⟨⟨gw_mem 1701 (by decide +kernel) (by decide +kernel), gw_mem 14 (by decide +kernel) (by decide +kernel), by decide +kernel, by decide⟩, gw_mem 1699 (by decide +kernel) (by decide +kernel), gw_mem 1700 (by decide +kernel) (by decide +kernel)⟩
theorem kL_193 : Cond.methodLink RL 193 yL_isPossible ∈ GW := gw_mem 1030 (by decide +kernel) (by decide +kernel)
theorem kL_195 : Cond.methodLink RL 195 yX10_isPossible ∈ GW := gw_mem 1706 (by decide +kernel) (by decide +kernel)
theorem bX10_isPossible : CBv yX10_isPossible cX10_isPossible 2 (some .boolean) 1 := ⟨⟨gw_mem 1709 (by decide +kernel) (by decide +kernel), gw_mem 14 (by decide +kernel) (by decide +kernel), by decide +kernel, by decide⟩, gw_mem 1707 (by decide +kernel) (by decide +kernel), gw_mem 1708 (by decide +kernel) (by decide +kernel)⟩
theorem kL_196 : Cond.methodLink RL 196 yL_isSettled ∈ GW := gw_mem 1037 (by decide +kernel) (by decide +kernel)
theorem kL_198 : Cond.methodLink RL 198 yX10_isSettled ∈ GW := gw_mem 1710 (by decide +kernel) (by decide +kernel)
theorem bX10_isSettled : CBv yX10_isSettled cX10_isSettled 2 (some .boolean) 1 := ⟨⟨gw_mem 1713 (by decide +kernel) (by decide +kernel), gw_mem 14 (by decide +kernel) (by decide +kernel), by decide +kernel, by decide⟩, gw_mem 1711 (by decide +kernel) (by decide +kernel), gw_mem 1712 (by decide +kernel) (by decide +kernel)⟩
theorem kL_199 : Cond.methodLink RL 199 yL_ridesInPeace ∈ GW := gw_mem 1049 (by decide +kernel) (by decide +kernel)
theorem kL_201 : Cond.methodLink RL 201 yX10_ridesInPeace ∈ GW := gw_mem 1714 (by decide +kernel) (by decide +kernel)
theorem bX10_ridesInPeace : CBv yX10_ridesInPeace cX10_ridesInPeace 2 (some .boolean) 1 := ⟨⟨gw_mem 1717 (by decide +kernel) (by decide +kernel), gw_mem 14 (by decide +kernel) (by decide +kernel), by decide +kernel, by decide⟩, gw_mem 1715 (by decide +kernel) (by decide +kernel), gw_mem 1716 (by decide +kernel) (by decide +kernel)⟩
theorem kL_202 : Cond.methodLink RL 202 yL_ridersInPeace ∈ GW := gw_mem 1057 (by decide +kernel) (by decide +kernel)
theorem kL_205 : Cond.methodLink RL 205 yX10_ridersInPeace ∈ GW := gw_mem 1718 (by decide +kernel) (by decide +kernel)
theorem bX10_ridersInPeace : CBv yX10_ridersInPeace cX10_ridersInPeace 1 (some .int) 0 := ⟨⟨gw_mem 1721 (by decide +kernel) (by decide +kernel), gw_mem 14 (by decide +kernel) (by decide +kernel), by decide +kernel, by decide⟩, gw_mem 1719 (by decide +kernel) (by decide +kernel), gw_mem 1720 (by decide +kernel) (by decide +kernel)⟩
theorem kL_206 : Cond.methodLink RL 206 yL_blamedFamily ∈ GW := gw_mem 1064 (by decide +kernel) (by decide +kernel)
theorem kL_208 : Cond.methodLink RL 208 yX10_blamedFamily ∈ GW := gw_mem 1722 (by decide +kernel) (by decide +kernel)
theorem bX10_blamedFamily : CBv yX10_blamedFamily cX10_blamedFamily 1 (some .int) 0 := ⟨⟨gw_mem 1725 (by decide +kernel) (by decide +kernel), gw_mem 14 (by decide +kernel) (by decide +kernel), by decide +kernel, by decide⟩, gw_mem 1723 (by decide +kernel) (by decide +kernel), gw_mem 1724 (by decide +kernel) (by decide +kernel)⟩
theorem kL_209 : Cond.methodLink RL 209 yL_breakStatement ∈ GW := gw_mem 1072 (by decide +kernel) (by decide +kernel)
theorem kL_211 : Cond.methodLink RL 211 yX10_breakStatement ∈ GW := gw_mem 1730 (by decide +kernel) (by decide +kernel)
theorem bX10_breakStatement : CBv yX10_breakStatement cX10_breakStatement 2 (some .int) 1 := ⟨⟨gw_mem 1733 (by decide +kernel) (by decide +kernel), gw_mem 14 (by decide +kernel) (by decide +kernel), by decide +kernel, by decide⟩, gw_mem 1731 (by decide +kernel) (by decide +kernel), gw_mem 1732 (by decide +kernel) (by decide +kernel)⟩
theorem kL_212 : Cond.methodLink RL 212 yL_renewStatement ∈ GW := gw_mem 1079 (by decide +kernel) (by decide +kernel)
theorem kL_214 : Cond.methodLink RL 214 yX10_renewStatement ∈ GW := gw_mem 1738 (by decide +kernel) (by decide +kernel)
theorem bX10_renewStatement : CBv yX10_renewStatement cX10_renewStatement 2 (some .int) 1 := ⟨⟨gw_mem 1741 (by decide +kernel) (by decide +kernel), gw_mem 14 (by decide +kernel) (by decide +kernel), by decide +kernel, by decide⟩, gw_mem 1739 (by decide +kernel) (by decide +kernel), gw_mem 1740 (by decide +kernel) (by decide +kernel)⟩
theorem kL_215 : Cond.methodLink RL 215 yL_passDays ∈ GW := gw_mem 1088 (by decide +kernel) (by decide +kernel)
theorem kL_217 : Cond.methodLink RL 217 yX10_passDays ∈ GW := gw_mem 1742 (by decide +kernel) (by decide +kernel)
theorem bX10_passDays : CBv yX10_passDays cX10_passDays 3 (some .int) 1 := ⟨⟨gw_mem 1745 (by decide +kernel) (by decide +kernel), gw_mem 14 (by decide +kernel) (by decide +kernel), by decide +kernel, by decide⟩, gw_mem 1743 (by decide +kernel) (by decide +kernel), gw_mem 1744 (by decide +kernel) (by decide +kernel)⟩
theorem kL_218 : Cond.methodLink RL 218 yL_standingAfter ∈ GW := gw_mem 1100 (by decide +kernel) (by decide +kernel)
theorem kL_220 : Cond.methodLink RL 220 yX10_standingAfter ∈ GW := gw_mem 1777 (by decide +kernel) (by decide +kernel)
theorem bX10_standingAfter : CBv yX10_standingAfter cX10_standingAfter 4 (some .int) 1 := ⟨⟨gw_mem 1780 (by decide +kernel) (by decide +kernel), gw_mem 14 (by decide +kernel) (by decide +kernel), by decide +kernel, by decide⟩, gw_mem 1778 (by decide +kernel) (by decide +kernel), gw_mem 1779 (by decide +kernel) (by decide +kernel)⟩
theorem kL_221 : Cond.methodLink RL 221 yL_peacesAfter ∈ GW := gw_mem 1107 (by decide +kernel) (by decide +kernel)
theorem kL_223 : Cond.methodLink RL 223 yX10_peacesAfter ∈ GW := gw_mem 1785 (by decide +kernel) (by decide +kernel)
theorem bX10_peacesAfter : CBv yX10_peacesAfter cX10_peacesAfter 4 (some .int) 1 := ⟨⟨gw_mem 1788 (by decide +kernel) (by decide +kernel), gw_mem 14 (by decide +kernel) (by decide +kernel), by decide +kernel, by decide⟩, gw_mem 1786 (by decide +kernel) (by decide +kernel), gw_mem 1787 (by decide +kernel) (by decide +kernel)⟩
theorem kL_224 : Cond.methodLink RL 224 yX8_daysUntilPeace ∈ GW := gw_mem 661 (by decide +kernel) (by decide +kernel)
theorem bX8_daysUntilPeace : CBv yX8_daysUntilPeace cX8_daysUntilPeace 2 (some .int) 0 := ⟨⟨gw_mem 664 (by decide +kernel) (by decide +kernel), gw_mem 1 (by decide +kernel) (by decide +kernel), by decide +kernel, by decide⟩, gw_mem 662 (by decide +kernel) (by decide +kernel), gw_mem 663 (by decide +kernel) (by decide +kernel)⟩
theorem kL_227 : Cond.methodLink RL 227 yX10_daysUntilPeace ∈ GW := gw_mem 1789 (by decide +kernel) (by decide +kernel)
theorem bX10_daysUntilPeace : CBv yX10_daysUntilPeace cX10_daysUntilPeace 3 (some .int) 0 := ⟨⟨gw_mem 1792 (by decide +kernel) (by decide +kernel), gw_mem 14 (by decide +kernel) (by decide +kernel), by decide +kernel, by decide⟩, gw_mem 1790 (by decide +kernel) (by decide +kernel), gw_mem 1791 (by decide +kernel) (by decide +kernel)⟩
theorem kL_228 : Cond.methodLink RL 228 yX8_fewestToBreak ∈ GW := gw_mem 746 (by decide +kernel) (by decide +kernel)
theorem bX8_fewestToBreak : CBv yX8_fewestToBreak cX8_fewestToBreak 1 (some .int) 0 := ⟨⟨gw_mem 749 (by decide +kernel) (by decide +kernel), gw_mem 1 (by decide +kernel) (by decide +kernel), by decide +kernel, by decide⟩, gw_mem 747 (by decide +kernel) (by decide +kernel), gw_mem 748 (by decide +kernel) (by decide +kernel)⟩
theorem kL_231 : Cond.methodLink RL 231 yX10_fewestToBreak ∈ GW := gw_mem 1797 (by decide +kernel) (by decide +kernel)
theorem bX10_fewestToBreak : CBv yX10_fewestToBreak cX10_fewestToBreak 5 (some .int) 0 := ⟨⟨gw_mem 1800 (by decide +kernel) (by decide +kernel), gw_mem 14 (by decide +kernel) (by decide +kernel), by decide +kernel, by decide⟩, gw_mem 1798 (by decide +kernel) (by decide +kernel), gw_mem 1799 (by decide +kernel) (by decide +kernel)⟩
theorem kL_232 : Cond.methodLink RL 232 yL_mostTellingOath ∈ GW := gw_mem 1114 (by decide +kernel) (by decide +kernel)
theorem kL_234 : Cond.methodLink RL 234 yX10_mostTellingOath ∈ GW := gw_mem 1801 (by decide +kernel) (by decide +kernel)
theorem bX10_mostTellingOath : CBv yX10_mostTellingOath cX10_mostTellingOath 1 (some .int) 0 := ⟨⟨gw_mem 1804 (by decide +kernel) (by decide +kernel), gw_mem 14 (by decide +kernel) (by decide +kernel), by decide +kernel, by decide⟩, gw_mem 1802 (by decide +kernel) (by decide +kernel), gw_mem 1803 (by decide +kernel) (by decide +kernel)⟩
theorem kL_235 : Cond.methodLink RL 235 yX8_meanRiders ∈ GW := gw_mem 759 (by decide +kernel) (by decide +kernel)
theorem bX8_meanRiders : CBv yX8_meanRiders cX8_meanRiders 4 (some .double) 0 := ⟨⟨gw_mem 762 (by decide +kernel) (by decide +kernel), gw_mem 1 (by decide +kernel) (by decide +kernel), by decide +kernel, by decide⟩, gw_mem 760 (by decide +kernel) (by decide +kernel), gw_mem 761 (by decide +kernel) (by decide +kernel)⟩
theorem kL_239 : Cond.methodLink RL 239 yX10_meanRiders ∈ GW := gw_mem 1809 (by decide +kernel) (by decide +kernel)
theorem bX10_meanRiders : CBv yX10_meanRiders cX10_meanRiders 1 (some .double) 0 := ⟨⟨gw_mem 1812 (by decide +kernel) (by decide +kernel), gw_mem 14 (by decide +kernel) (by decide +kernel), by decide +kernel, by decide⟩, gw_mem 1810 (by decide +kernel) (by decide +kernel), gw_mem 1811 (by decide +kernel) (by decide +kernel)⟩
theorem kL_240 : Cond.methodLink RL 240 yX8_digest ∈ GW := gw_mem 764 (by decide +kernel) (by decide +kernel)
theorem bX8_digest : CBv yX8_digest cX8_digest 3 (some .long) 0 := ⟨⟨gw_mem 767 (by decide +kernel) (by decide +kernel), gw_mem 1 (by decide +kernel) (by decide +kernel), by decide +kernel, by decide⟩, gw_mem 765 (by decide +kernel) (by decide +kernel), gw_mem 766 (by decide +kernel) (by decide +kernel)⟩
theorem kL_244 : Cond.methodLink RL 244 yX10_digest ∈ GW := gw_mem 1813 (by decide +kernel) (by decide +kernel)
theorem bX10_digest : CBv yX10_digest cX10_digest 8 (some .long) 0 := ⟨⟨gw_mem 1816 (by decide +kernel) (by decide +kernel), gw_mem 14 (by decide +kernel) (by decide +kernel), by decide +kernel, by decide⟩, gw_mem 1814 (by decide +kernel) (by decide +kernel), gw_mem 1815 (by decide +kernel) (by decide +kernel)⟩
/-! The law's cases: each call of the class and the reference's -/
theorem lg_self (v : Int64) : lg_cmp v v = 0 := by unfold lg_cmp; simp
theorem code1_ne (E : String) : ¬ code1 E = 0 := by unfold code1; decide
theorem code2_ne (E : String) : ¬ code2 E = 0 := by unfold code2; split <;> decide
theorem mb_some {g : XS → Option (Bool × XS)} {z : XS} {w : Int32 × XS} (h : mb g z = some w) : ∃ u : Bool × XS, g z = some u ∧ w = (b2i u.1, u.2) := by
  unfold mb at h
  cases hg : g z with
  | none => rw [hg] at h; cases h
  | some u => rw [hg] at h; exact ⟨u, rfl, (Option.some.inj h).symm⟩
def Cong (I : XS → XS → Prop) : Prop := ∀ {x z x' z' : XS}, I x z → cgF x x' → cgM z z' → I x' z'
def MKs (I : XS → XS → Prop) : Prop := ∀ {x z : XS}, I x z → MK z ∧ ((r0 z).1 0 22 = (r0 z).1 0 15 → DIA (r0 z))
theorem dcmp_same (v : UInt64) : (FP.dcmp v v = some .eq) ∨ (FP.dcmp v v = none) := by
  show FP.Core.order (FP.Core.decode FP.Core.b64 v.toNat) (FP.Core.decode FP.Core.b64 v.toNat) = some .eq ∨ FP.Core.order (FP.Core.decode FP.Core.b64 v.toNat) (FP.Core.decode FP.Core.b64 v.toNat) = none
  generalize FP.Core.decode FP.Core.b64 v.toNat = d
  have cs : ∀ z : Int, compare z z = Ordering.eq := fun z => by simp [compare, compareOfLessAndEq]
  cases d with
  | nan => exact Or.inr rfl
  | inf t => exact Or.inl (congrArg some (cs _))
  | fin t c q => exact Or.inl (congrArg some (cs _))
theorem cw_feed : CBw yL_feed cL_feed 8 (some .int) [(0, 16, 19, 13)] 7 := ⟨gw_mem 811 (by decide +kernel) (by decide +kernel), gw_mem 0 (by decide +kernel) (by decide +kernel), gw_mem 810 (by decide +kernel) (by decide +kernel), by decide +kernel, by decide⟩
set_option maxHeartbeats 4000000 in
set_option maxRecDepth 100000 in
theorem law_feed {k : Kx} {nm : String} (hk : Fok k code 9 RL ret nm 1312 601000 7293000) (hNc : NcK k) (hfl : (kg k).1.stackTraces = false) {b M : Nat} {xs : Nat → Int32} (hsc : ScK k b M xs) {i : Int32} (hv1 : vp_in (i + 1) M) (hv2 : vp_in (i + 2) M) (hv3 : vp_in (i + 3) M) (hv4 : vp_in (i + 4) M) (hv5 : vp_in (i + 5) M) {I : XS → XS → Prop} (hcg : Cong I) (hMK : MKs I) (hA : AgT I code1 cvI (fun E => E = "java/lang/IllegalStateException") (f_X8_feed (xs (i + 1).toNatClampNeg) (xs (i + 2).toNatClampNeg) (xs (i + 3).toNatClampNeg) (xs (i + 4).toNatClampNeg) (xs (i + 5).toNatClampNeg)) (f_X10_feed (xs (i + 1).toNatClampNeg) (xs (i + 2).toNatClampNeg) (xs (i + 3).toNatClampNeg) (xs (i + 4).toNatClampNeg) (xs (i + 5).toNatClampNeg))) {a : Nat → Nat} {x : XS} {cells slots : Nat} (hI : I x (pul 49 x)) (hrm : cells + 30 ≤ 601000 ∧ slots + 3000 ≤ 7293000)
    (kk : ∀ (a : Nat → Nat) (x : XS), I x (pul 49 x) → Wx k (cells + 30) (slots + 3000) LL a x 1875 [(0, .ref b), (1, .ref (a 0)), (2, .ref (a 49)), (3, .ref (a 48)), (4, .int i)] []) : Wx k cells slots LL a x 216 [(0, .ref b), (1, .ref (a 0)), (2, .ref (a 49)), (3, .ref (a 48)), (4, .int i)] [] := by
  rcases hA x (pul 49 x) hI with ⟨E, x1, w, hu, hw, hth, hes, hI1⟩ | ⟨v, x1, w, hu, hw, hth, hcv, hI1⟩
  · refine xaload_n hk dL_law_216 rfl ?_
    refine xaload_n hk dL_law_217 rfl ?_
    refine xiload hk dL_law_218 rfl ?_
    refine xiconst (v := 1) hk dL_law_220 (by decide) ?_
    refine xiadd hk dL_law_221 ?_
    refine xsld hk hsc dL_law_222 hv1 ?_
    refine xaload_n hk dL_law_223 rfl ?_
    refine xiload hk dL_law_224 rfl ?_
    refine xiconst (v := 2) hk dL_law_226 (by decide) ?_
    refine xiadd hk dL_law_227 ?_
    refine xsld hk hsc dL_law_228 hv2 ?_
    refine xaload_n hk dL_law_229 rfl ?_
    refine xiload hk dL_law_230 rfl ?_
    refine xiconst (v := 3) hk dL_law_232 (by decide) ?_
    refine xiadd hk dL_law_233 ?_
    refine xsld hk hsc dL_law_234 hv3 ?_
    refine xaload_n hk dL_law_235 rfl ?_
    refine xiload hk dL_law_236 rfl ?_
    refine xiconst (v := 4) hk dL_law_238 (by decide) ?_
    refine xiadd hk dL_law_239 ?_
    refine xsld hk hsc dL_law_240 hv4 ?_
    refine xaload_n hk dL_law_241 rfl ?_
    refine xiload hk dL_law_242 rfl ?_
    refine xiconst (v := 5) hk dL_law_244 (by decide) ?_
    refine xiadd hk dL_law_245 ?_
    refine xsld hk hsc dL_law_246 hv5 ?_
    refine xaload_n hk dL_law_247 rfl ?_
    refine xcallSWO 0 sub_FO pa0 px0 hk hNc (w_feed hfl hu (fun E x h => by cases h; exact hes) (fun v x h => by cases h)) cw_feed kL_97 dL_law_248 rfl rfl (by decide) ⟨by omega, by omega⟩ (Nat.le_of_ble_eq_true rfl) ?_
    rintro _ x9 hw9
    obtain ⟨rfl, rfl⟩ := hw9
    rw [show LFO.length = 49 from rfl]
    refine xistore hk dL_law_251 (by decide) ?_
    refine xaload_n hk dL_law_253 rfl ?_
    refine xaload_n hk dL_law_254 rfl ?_
    refine xiload hk dL_law_255 rfl ?_
    refine xiconst (v := 1) hk dL_law_257 (by decide) ?_
    refine xiadd hk dL_law_258 ?_
    refine xsld hk hsc dL_law_259 hv1 ?_
    refine xaload_n hk dL_law_260 rfl ?_
    refine xiload hk dL_law_261 rfl ?_
    refine xiconst (v := 2) hk dL_law_263 (by decide) ?_
    refine xiadd hk dL_law_264 ?_
    refine xsld hk hsc dL_law_265 hv2 ?_
    refine xaload_n hk dL_law_266 rfl ?_
    refine xiload hk dL_law_267 rfl ?_
    refine xiconst (v := 3) hk dL_law_269 (by decide) ?_
    refine xiadd hk dL_law_270 ?_
    refine xsld hk hsc dL_law_271 hv3 ?_
    refine xaload_n hk dL_law_272 rfl ?_
    refine xiload hk dL_law_273 rfl ?_
    refine xiconst (v := 4) hk dL_law_275 (by decide) ?_
    refine xiadd hk dL_law_276 ?_
    refine xsld hk hsc dL_law_277 hv4 ?_
    refine xaload_n hk dL_law_278 rfl ?_
    refine xiload hk dL_law_279 rfl ?_
    refine xiconst (v := 5) hk dL_law_281 (by decide) ?_
    refine xiadd hk dL_law_282 ?_
    refine xsld hk hsc dL_law_283 hv5 ?_
    refine xcallVO 49 sub_M rfl (pul49 (by decide)) hk (c_X10_feed hw) bX10_feed kL_102 dL_law_284 rfl ⟨_, _, _, _, rfl, rfl⟩ rfl (by decide) ⟨by omega, by omega⟩ (Nat.le_of_ble_eq_true rfl) (det ?_)
    rw [show LM.length = 21 from rfl]
    refine xistore hk dL_law_287 (by decide) ?_
    refine xaload_n hk dL_law_289 rfl ?_
    refine xcallVO 49 sub_M rfl rfl hk c_X10_thrown bX10_thrown kL_103 dL_law_290 rfl ⟨_, _, _, _, rfl, rfl⟩ rfl (by decide) ⟨by omega, by omega⟩ (Nat.le_of_ble_eq_true rfl) (det ?_)
    rw [show LM.length = 21 from rfl, xmix_self, thr_at, hth]
    refine xiload hk dL_law_293 rfl ?_
    refine xicmp_eq hk 300 dL_law_295 (by decide) (fun _ => ?_) (fun hne => absurd rfl hne)
    refine xiload hk dL_law_300 rfl ?_
    refine xif_ne hk 317 dL_law_302 (by decide) (fun _ => ?_) (fun hz => absurd hz (code1_ne _))
    refine xgoto hk 1875 dL_law_317 (by decide) ?_
    refine xsub [(0, .ref b), (1, .ref (a 0)), (2, .ref (a 49)), (3, .ref (a 48)), (4, .int i)] rfl ?_
    exact xwiden (by omega) (by omega) (kk a _ (hcg hI1 (cg_lawF mix48 ⟨by decide, by decide⟩) cg_lawM))
  · refine xaload_n hk dL_law_216 rfl ?_
    refine xaload_n hk dL_law_217 rfl ?_
    refine xiload hk dL_law_218 rfl ?_
    refine xiconst (v := 1) hk dL_law_220 (by decide) ?_
    refine xiadd hk dL_law_221 ?_
    refine xsld hk hsc dL_law_222 hv1 ?_
    refine xaload_n hk dL_law_223 rfl ?_
    refine xiload hk dL_law_224 rfl ?_
    refine xiconst (v := 2) hk dL_law_226 (by decide) ?_
    refine xiadd hk dL_law_227 ?_
    refine xsld hk hsc dL_law_228 hv2 ?_
    refine xaload_n hk dL_law_229 rfl ?_
    refine xiload hk dL_law_230 rfl ?_
    refine xiconst (v := 3) hk dL_law_232 (by decide) ?_
    refine xiadd hk dL_law_233 ?_
    refine xsld hk hsc dL_law_234 hv3 ?_
    refine xaload_n hk dL_law_235 rfl ?_
    refine xiload hk dL_law_236 rfl ?_
    refine xiconst (v := 4) hk dL_law_238 (by decide) ?_
    refine xiadd hk dL_law_239 ?_
    refine xsld hk hsc dL_law_240 hv4 ?_
    refine xaload_n hk dL_law_241 rfl ?_
    refine xiload hk dL_law_242 rfl ?_
    refine xiconst (v := 5) hk dL_law_244 (by decide) ?_
    refine xiadd hk dL_law_245 ?_
    refine xsld hk hsc dL_law_246 hv5 ?_
    refine xaload_n hk dL_law_247 rfl ?_
    refine xcallSWO 0 sub_FO pa0 px0 hk hNc (w_feed hfl hu (fun E x h => by cases h) (fun v x h => by cases h; exact ⟨_, rfl⟩)) cw_feed kL_97 dL_law_248 rfl rfl (by decide) ⟨by omega, by omega⟩ (Nat.le_of_ble_eq_true rfl) ?_
    rintro _ x9 hw9
    obtain ⟨rfl, rfl⟩ := hw9
    rw [show LFO.length = 49 from rfl]
    refine xistore hk dL_law_251 (by decide) ?_
    refine xaload_n hk dL_law_253 rfl ?_
    refine xaload_n hk dL_law_254 rfl ?_
    refine xiload hk dL_law_255 rfl ?_
    refine xiconst (v := 1) hk dL_law_257 (by decide) ?_
    refine xiadd hk dL_law_258 ?_
    refine xsld hk hsc dL_law_259 hv1 ?_
    refine xaload_n hk dL_law_260 rfl ?_
    refine xiload hk dL_law_261 rfl ?_
    refine xiconst (v := 2) hk dL_law_263 (by decide) ?_
    refine xiadd hk dL_law_264 ?_
    refine xsld hk hsc dL_law_265 hv2 ?_
    refine xaload_n hk dL_law_266 rfl ?_
    refine xiload hk dL_law_267 rfl ?_
    refine xiconst (v := 3) hk dL_law_269 (by decide) ?_
    refine xiadd hk dL_law_270 ?_
    refine xsld hk hsc dL_law_271 hv3 ?_
    refine xaload_n hk dL_law_272 rfl ?_
    refine xiload hk dL_law_273 rfl ?_
    refine xiconst (v := 4) hk dL_law_275 (by decide) ?_
    refine xiadd hk dL_law_276 ?_
    refine xsld hk hsc dL_law_277 hv4 ?_
    refine xaload_n hk dL_law_278 rfl ?_
    refine xiload hk dL_law_279 rfl ?_
    refine xiconst (v := 5) hk dL_law_281 (by decide) ?_
    refine xiadd hk dL_law_282 ?_
    refine xsld hk hsc dL_law_283 hv5 ?_
    refine xcallVO 49 sub_M rfl (pul49 (by decide)) hk (c_X10_feed hw) bX10_feed kL_102 dL_law_284 rfl ⟨_, _, _, _, rfl, rfl⟩ rfl (by decide) ⟨by omega, by omega⟩ (Nat.le_of_ble_eq_true rfl) (det ?_)
    rw [show LM.length = 21 from rfl]
    refine xistore hk dL_law_287 (by decide) ?_
    refine xaload_n hk dL_law_289 rfl ?_
    refine xcallVO 49 sub_M rfl rfl hk c_X10_thrown bX10_thrown kL_103 dL_law_290 rfl ⟨_, _, _, _, rfl, rfl⟩ rfl (by decide) ⟨by omega, by omega⟩ (Nat.le_of_ble_eq_true rfl) (det ?_)
    rw [show LM.length = 21 from rfl, xmix_self, thr_at, hth]
    refine xiload hk dL_law_293 rfl ?_
    refine xicmp_eq hk 300 dL_law_295 (by decide) (fun _ => ?_) (fun hne => absurd rfl hne)
    refine xiload hk dL_law_300 rfl ?_
    refine xif_ne hk 317 dL_law_302 (by decide) (fun hz => absurd rfl hz) (fun _ => ?_)
    refine xaload_n hk dL_law_305 rfl ?_
    refine xiconst (v := 0) hk dL_law_306 (by decide) ?_
    refine xlald hk dL_law_307 rfl (inB_v (by decide)) ?_
    rw [show (0 : Int32).toNatClampNeg = 0 from rfl, out_at, hcv]
    refine xiload hk dL_law_308 rfl ?_
    refine xi2l hk dL_law_310 ?_
    refine xlcmp hk dL_law_311 ?_
    refine xif_eq hk 317 dL_law_312 (by decide) (fun _ => ?_) (fun hz => absurd (lg_self _) hz)
    refine xgoto hk 1875 dL_law_317 (by decide) ?_
    refine xsub [(0, .ref b), (1, .ref (a 0)), (2, .ref (a 49)), (3, .ref (a 48)), (4, .int i)] rfl ?_
    exact xwiden (by omega) (by omega) (kk a _ (hcg hI1 (cg_lawF mix48o ⟨by decide, by decide⟩) cg_lawM))
theorem cw_trim : CBw yL_trim cL_trim 4 (some .int) [(0, 9, 12, 19)] 3 := ⟨gw_mem 890 (by decide +kernel) (by decide +kernel), gw_mem 0 (by decide +kernel) (by decide +kernel), gw_mem 889 (by decide +kernel) (by decide +kernel), by decide +kernel, by decide⟩
set_option maxHeartbeats 4000000 in
set_option maxRecDepth 100000 in
theorem law_trim {k : Kx} {nm : String} (hk : Fok k code 9 RL ret nm 1312 601000 7293000) (hNc : NcK k) (hfl : (kg k).1.stackTraces = false) {b M : Nat} {xs : Nat → Int32} (hsc : ScK k b M xs) {i : Int32} (hv1 : vp_in (i + 1) M) {I : XS → XS → Prop} (hcg : Cong I) (hMK : MKs I) (hA : AgT I code1 cvI (fun E => E = "java/lang/IllegalArgumentException") (f_X8_trim (xs (i + 1).toNatClampNeg)) (f_X10_trim (xs (i + 1).toNatClampNeg))) {a : Nat → Nat} {x : XS} {cells slots : Nat} (hI : I x (pul 49 x)) (hrm : cells + 30 ≤ 601000 ∧ slots + 3000 ≤ 7293000)
    (kk : ∀ (a : Nat → Nat) (x : XS), I x (pul 49 x) → Wx k (cells + 30) (slots + 3000) LL a x 1875 [(0, .ref b), (1, .ref (a 0)), (2, .ref (a 49)), (3, .ref (a 48)), (4, .int i)] []) : Wx k cells slots LL a x 320 [(0, .ref b), (1, .ref (a 0)), (2, .ref (a 49)), (3, .ref (a 48)), (4, .int i)] [] := by
  rcases hA x (pul 49 x) hI with ⟨E, x1, w, hu, hw, hth, hes, hI1⟩ | ⟨v, x1, w, hu, hw, hth, hcv, hI1⟩
  · refine xaload_n hk dL_law_320 rfl ?_
    refine xaload_n hk dL_law_321 rfl ?_
    refine xiload hk dL_law_322 rfl ?_
    refine xiconst (v := 1) hk dL_law_324 (by decide) ?_
    refine xiadd hk dL_law_325 ?_
    refine xsld hk hsc dL_law_326 hv1 ?_
    refine xaload_n hk dL_law_327 rfl ?_
    refine xcallSWO 0 sub_FO pa0 px0 hk hNc (w_trim hfl hu (fun E x h => by cases h; exact hes) (fun v x h => by cases h)) cw_trim kL_106 dL_law_328 rfl rfl (by decide) ⟨by omega, by omega⟩ (Nat.le_of_ble_eq_true rfl) ?_
    rintro _ x9 hw9
    obtain ⟨rfl, rfl⟩ := hw9
    rw [show LFO.length = 49 from rfl]
    refine xistore hk dL_law_331 (by decide) ?_
    refine xaload_n hk dL_law_333 rfl ?_
    refine xaload_n hk dL_law_334 rfl ?_
    refine xiload hk dL_law_335 rfl ?_
    refine xiconst (v := 1) hk dL_law_337 (by decide) ?_
    refine xiadd hk dL_law_338 ?_
    refine xsld hk hsc dL_law_339 hv1 ?_
    refine xcallVO 49 sub_M rfl (pul49 (by decide)) hk (c_X10_trim hw) bX10_trim kL_109 dL_law_340 rfl ⟨_, _, _, _, rfl, rfl⟩ rfl (by decide) ⟨by omega, by omega⟩ (Nat.le_of_ble_eq_true rfl) (det ?_)
    rw [show LM.length = 21 from rfl]
    refine xistore hk dL_law_343 (by decide) ?_
    refine xaload_n hk dL_law_345 rfl ?_
    refine xcallVO 49 sub_M rfl rfl hk c_X10_thrown bX10_thrown kL_103 dL_law_346 rfl ⟨_, _, _, _, rfl, rfl⟩ rfl (by decide) ⟨by omega, by omega⟩ (Nat.le_of_ble_eq_true rfl) (det ?_)
    rw [show LM.length = 21 from rfl, xmix_self, thr_at, hth]
    refine xiload hk dL_law_349 rfl ?_
    refine xicmp_eq hk 356 dL_law_351 (by decide) (fun _ => ?_) (fun hne => absurd rfl hne)
    refine xiload hk dL_law_356 rfl ?_
    refine xif_ne hk 373 dL_law_358 (by decide) (fun _ => ?_) (fun hz => absurd hz (code1_ne _))
    refine xgoto hk 1875 dL_law_373 (by decide) ?_
    refine xsub [(0, .ref b), (1, .ref (a 0)), (2, .ref (a 49)), (3, .ref (a 48)), (4, .int i)] rfl ?_
    exact xwiden (by omega) (by omega) (kk a _ (hcg hI1 (cg_lawF mix48 ⟨by decide, by decide⟩) cg_lawM))
  · refine xaload_n hk dL_law_320 rfl ?_
    refine xaload_n hk dL_law_321 rfl ?_
    refine xiload hk dL_law_322 rfl ?_
    refine xiconst (v := 1) hk dL_law_324 (by decide) ?_
    refine xiadd hk dL_law_325 ?_
    refine xsld hk hsc dL_law_326 hv1 ?_
    refine xaload_n hk dL_law_327 rfl ?_
    refine xcallSWO 0 sub_FO pa0 px0 hk hNc (w_trim hfl hu (fun E x h => by cases h) (fun v x h => by cases h; exact ⟨_, rfl⟩)) cw_trim kL_106 dL_law_328 rfl rfl (by decide) ⟨by omega, by omega⟩ (Nat.le_of_ble_eq_true rfl) ?_
    rintro _ x9 hw9
    obtain ⟨rfl, rfl⟩ := hw9
    rw [show LFO.length = 49 from rfl]
    refine xistore hk dL_law_331 (by decide) ?_
    refine xaload_n hk dL_law_333 rfl ?_
    refine xaload_n hk dL_law_334 rfl ?_
    refine xiload hk dL_law_335 rfl ?_
    refine xiconst (v := 1) hk dL_law_337 (by decide) ?_
    refine xiadd hk dL_law_338 ?_
    refine xsld hk hsc dL_law_339 hv1 ?_
    refine xcallVO 49 sub_M rfl (pul49 (by decide)) hk (c_X10_trim hw) bX10_trim kL_109 dL_law_340 rfl ⟨_, _, _, _, rfl, rfl⟩ rfl (by decide) ⟨by omega, by omega⟩ (Nat.le_of_ble_eq_true rfl) (det ?_)
    rw [show LM.length = 21 from rfl]
    refine xistore hk dL_law_343 (by decide) ?_
    refine xaload_n hk dL_law_345 rfl ?_
    refine xcallVO 49 sub_M rfl rfl hk c_X10_thrown bX10_thrown kL_103 dL_law_346 rfl ⟨_, _, _, _, rfl, rfl⟩ rfl (by decide) ⟨by omega, by omega⟩ (Nat.le_of_ble_eq_true rfl) (det ?_)
    rw [show LM.length = 21 from rfl, xmix_self, thr_at, hth]
    refine xiload hk dL_law_349 rfl ?_
    refine xicmp_eq hk 356 dL_law_351 (by decide) (fun _ => ?_) (fun hne => absurd rfl hne)
    refine xiload hk dL_law_356 rfl ?_
    refine xif_ne hk 373 dL_law_358 (by decide) (fun hz => absurd rfl hz) (fun _ => ?_)
    refine xaload_n hk dL_law_361 rfl ?_
    refine xiconst (v := 0) hk dL_law_362 (by decide) ?_
    refine xlald hk dL_law_363 rfl (inB_v (by decide)) ?_
    rw [show (0 : Int32).toNatClampNeg = 0 from rfl, out_at, hcv]
    refine xiload hk dL_law_364 rfl ?_
    refine xi2l hk dL_law_366 ?_
    refine xlcmp hk dL_law_367 ?_
    refine xif_eq hk 373 dL_law_368 (by decide) (fun _ => ?_) (fun hz => absurd (lg_self _) hz)
    refine xgoto hk 1875 dL_law_373 (by decide) ?_
    refine xsub [(0, .ref b), (1, .ref (a 0)), (2, .ref (a 49)), (3, .ref (a 48)), (4, .int i)] rfl ?_
    exact xwiden (by omega) (by omega) (kk a _ (hcg hI1 (cg_lawF mix48o ⟨by decide, by decide⟩) cg_lawM))
theorem cg_sufF {xa z : XS} (y : XS) (h : ∀ q, q < 48 → ∀ k, y.1 q k = xa.1 q k ∧ y.2 q k = xa.2 q k) : cgF xa (sufX 49 y z) := by
  intro q hq k
  unfold sufX
  simp only [if_pos (show q < 49 by omega)]
  exact h q hq k
theorem cg_sufM {y z : XS} : cgM z (pul 49 (sufX 49 y z)) := by
  intro q hq k
  unfold pul sufX
  simp only [if_neg (show ¬ 49 + q < 49 by omega), Nat.add_sub_cancel_left, and_self]
set_option maxHeartbeats 4000000 in
set_option maxRecDepth 100000 in
theorem law_teach {k : Kx} {nm : String} (hk : Fok k code 9 RL ret nm 1312 601000 7293000) (hNc : NcK k) (hfl : (kg k).1.stackTraces = false) {b M : Nat} {xs : Nat → Int32} (hsc : ScK k b M xs) {i : Int32}  {I : XS → XS → Prop} (hcg : Cong I) (hMK : MKs I) (hA : AgN I (fun x => some ((readF (setI (scanF x) 1 1 0)).1 34 5, teachF x)) f_X10_teach) {a : Nat → Nat} {x : XS} {cells slots : Nat} (hI : I x (pul 49 x)) (hrm : cells + 30 ≤ 601000 ∧ slots + 3000 ≤ 7293000)
    (kk : ∀ (a : Nat → Nat) (x : XS), I x (pul 49 x) → Wx k (cells + 30) (slots + 3000) LL a x 1875 [(0, .ref b), (1, .ref (a 0)), (2, .ref (a 49)), (3, .ref (a 48)), (4, .int i)] []) : Wx k cells slots LL a x 376 [(0, .ref b), (1, .ref (a 0)), (2, .ref (a 49)), (3, .ref (a 48)), (4, .int i)] [] := by
  obtain ⟨v, x1, z1, hu, hw, hI1⟩ := hA x (pul 49 x) hI
  obtain ⟨hv9, hx9⟩ := Prod.mk.inj (Option.some.inj hu)
  refine xaload_n hk dL_law_376 rfl ?_
  refine xcallVO 0 sub_F pa0 px0 hk c_X8_teach bX8_teach kL_110 dL_law_377 rfl ⟨_, _, _, _, rfl, rfl⟩ rfl (by decide) ⟨by omega, by omega⟩ (Nat.le_of_ble_eq_true rfl) (det ?_)
  rw [show LF.length = 48 from rfl]
  rw [hv9, hx9]
  refine xaload_n hk dL_law_380 rfl ?_
  refine xlay (lay' := sufL LFO LM) rfl ?_
  refine xcallVQ fr_LFO rfl (pul49 (by decide)) hk (c_X10_teach hw) bX10_teach kL_113 dL_law_381 rfl ⟨_, _, _, _, rfl, rfl⟩ rfl (by decide) ⟨by omega, by omega⟩ (Nat.le_of_ble_eq_true rfl) ?_
  rintro _ _ a1 _ ⟨rfl, rfl, rfl, ha1⟩
  rw [show LFO.length = 49 from rfl] at ha1 ⊢
  have h49 : sufA 49 a a1 49 = a 49 := (if_neg (by decide)).trans ha1
  refine xlay (lay' := LL) rfl ?_
  refine xicmp_eq hk 1875 dL_law_384 (by decide) (fun _ => ?_) (fun hne => absurd rfl hne)
  refine xsub [(0, .ref b), (1, .ref (sufA 49 a a1 0)), (2, .ref (sufA 49 a a1 49)), (3, .ref (sufA 49 a a1 48)), (4, .int i)] (by rw [h49]; rfl) ?_
  exact xwiden (by omega) (by omega) (kk _ _ (hcg hI1 (cg_sufF (xmix 0 48 x1 x) mix48) cg_sufM))
set_option maxHeartbeats 4000000 in
set_option maxRecDepth 100000 in
theorem law_errorAt {k : Kx} {nm : String} (hk : Fok k code 9 RL ret nm 1312 601000 7293000) (hNc : NcK k) (hfl : (kg k).1.stackTraces = false) {b M : Nat} {xs : Nat → Int32} (hsc : ScK k b M xs) {i : Int32}  {I : XS → XS → Prop} (hcg : Cong I) (hMK : MKs I) (hA : AgN I f_X8_errorAt (fun z => some (z.1 0 3, r0 z))) {a : Nat → Nat} {x : XS} {cells slots : Nat} (hI : I x (pul 49 x)) (hrm : cells + 30 ≤ 601000 ∧ slots + 3000 ≤ 7293000)
    (kk : ∀ (a : Nat → Nat) (x : XS), I x (pul 49 x) → Wx k (cells + 30) (slots + 3000) LL a x 1875 [(0, .ref b), (1, .ref (a 0)), (2, .ref (a 49)), (3, .ref (a 48)), (4, .int i)] []) : Wx k cells slots LL a x 389 [(0, .ref b), (1, .ref (a 0)), (2, .ref (a 49)), (3, .ref (a 48)), (4, .int i)] [] := by
  obtain ⟨v, x1, z1, hu, hw, hI1⟩ := hA x (pul 49 x) hI
  obtain ⟨rfl, rfl⟩ := Prod.mk.inj (Option.some.inj hw)
  refine xaload_n hk dL_law_389 rfl ?_
  refine xcallVO 0 sub_F pa0 px0 hk (c_X8_errorAt hu) bX8_errorAt kL_114 dL_law_390 rfl ⟨_, _, _, _, rfl, rfl⟩ rfl (by decide) ⟨by omega, by omega⟩ (Nat.le_of_ble_eq_true rfl) (det ?_)
  rw [show LF.length = 48 from rfl]
  refine xaload_n hk dL_law_393 rfl ?_
  refine xcallVO 49 sub_M rfl (pul49 (by decide)) hk (c_X10_errorAt (hMK hI).1) bX10_errorAt kL_117 dL_law_394 rfl ⟨_, _, _, _, rfl, rfl⟩ rfl (by decide) ⟨by omega, by omega⟩ (Nat.le_of_ble_eq_true rfl) (det ?_)
  rw [show LM.length = 21 from rfl]
  refine xicmp_eq hk 1875 dL_law_397 (by decide) (fun _ => ?_) (fun hne => absurd rfl hne)
  refine xsub [(0, .ref b), (1, .ref (a 0)), (2, .ref (a 49)), (3, .ref (a 48)), (4, .int i)] rfl ?_
  exact xwiden (by omega) (by omega) (kk a _ (hcg hI1 (cg_lawF (fun _ _ _ => ⟨rfl, rfl⟩) ⟨by decide, by decide⟩) cg_lawM))
set_option maxHeartbeats 4000000 in
set_option maxRecDepth 100000 in
theorem law_families {k : Kx} {nm : String} (hk : Fok k code 9 RL ret nm 1312 601000 7293000) (hNc : NcK k) (hfl : (kg k).1.stackTraces = false) {b M : Nat} {xs : Nat → Int32} (hsc : ScK k b M xs) {i : Int32}  {I : XS → XS → Prop} (hcg : Cong I) (hMK : MKs I) (hA : AgN I f_X8_families (fun z => some (z.1 11 0, r0 z))) {a : Nat → Nat} {x : XS} {cells slots : Nat} (hI : I x (pul 49 x)) (hrm : cells + 30 ≤ 601000 ∧ slots + 3000 ≤ 7293000)
    (kk : ∀ (a : Nat → Nat) (x : XS), I x (pul 49 x) → Wx k (cells + 30) (slots + 3000) LL a x 1875 [(0, .ref b), (1, .ref (a 0)), (2, .ref (a 49)), (3, .ref (a 48)), (4, .int i)] []) : Wx k cells slots LL a x 402 [(0, .ref b), (1, .ref (a 0)), (2, .ref (a 49)), (3, .ref (a 48)), (4, .int i)] [] := by
  obtain ⟨v, x1, z1, hu, hw, hI1⟩ := hA x (pul 49 x) hI
  obtain ⟨rfl, rfl⟩ := Prod.mk.inj (Option.some.inj hw)
  refine xaload_n hk dL_law_402 rfl ?_
  refine xcallVO 0 sub_F pa0 px0 hk (c_X8_families hu) bX8_families kL_118 dL_law_403 rfl ⟨_, _, _, _, rfl, rfl⟩ rfl (by decide) ⟨by omega, by omega⟩ (Nat.le_of_ble_eq_true rfl) (det ?_)
  rw [show LF.length = 48 from rfl]
  refine xaload_n hk dL_law_406 rfl ?_
  refine xcallVO 49 sub_M rfl (pul49 (by decide)) hk (c_X10_families (hMK hI).1) bX10_families kL_121 dL_law_407 rfl ⟨_, _, _, _, rfl, rfl⟩ rfl (by decide) ⟨by omega, by omega⟩ (Nat.le_of_ble_eq_true rfl) (det ?_)
  rw [show LM.length = 21 from rfl]
  refine xicmp_eq hk 1875 dL_law_410 (by decide) (fun _ => ?_) (fun hne => absurd rfl hne)
  refine xsub [(0, .ref b), (1, .ref (a 0)), (2, .ref (a 49)), (3, .ref (a 48)), (4, .int i)] rfl ?_
  exact xwiden (by omega) (by omega) (kk a _ (hcg hI1 (cg_lawF (fun _ _ _ => ⟨rfl, rfl⟩) ⟨by decide, by decide⟩) cg_lawM))
set_option maxHeartbeats 4000000 in
set_option maxRecDepth 100000 in
theorem law_statements {k : Kx} {nm : String} (hk : Fok k code 9 RL ret nm 1312 601000 7293000) (hNc : NcK k) (hfl : (kg k).1.stackTraces = false) {b M : Nat} {xs : Nat → Int32} (hsc : ScK k b M xs) {i : Int32}  {I : XS → XS → Prop} (hcg : Cong I) (hMK : MKs I) (hA : AgN I f_X8_statements (fun z => some (z.1 11 1, r0 z))) {a : Nat → Nat} {x : XS} {cells slots : Nat} (hI : I x (pul 49 x)) (hrm : cells + 30 ≤ 601000 ∧ slots + 3000 ≤ 7293000)
    (kk : ∀ (a : Nat → Nat) (x : XS), I x (pul 49 x) → Wx k (cells + 30) (slots + 3000) LL a x 1875 [(0, .ref b), (1, .ref (a 0)), (2, .ref (a 49)), (3, .ref (a 48)), (4, .int i)] []) : Wx k cells slots LL a x 415 [(0, .ref b), (1, .ref (a 0)), (2, .ref (a 49)), (3, .ref (a 48)), (4, .int i)] [] := by
  obtain ⟨v, x1, z1, hu, hw, hI1⟩ := hA x (pul 49 x) hI
  obtain ⟨rfl, rfl⟩ := Prod.mk.inj (Option.some.inj hw)
  refine xaload_n hk dL_law_415 rfl ?_
  refine xcallVO 0 sub_F pa0 px0 hk (c_X8_statements hu) bX8_statements kL_122 dL_law_416 rfl ⟨_, _, _, _, rfl, rfl⟩ rfl (by decide) ⟨by omega, by omega⟩ (Nat.le_of_ble_eq_true rfl) (det ?_)
  rw [show LF.length = 48 from rfl]
  refine xaload_n hk dL_law_419 rfl ?_
  refine xcallVO 49 sub_M rfl (pul49 (by decide)) hk (c_X10_statements (hMK hI).1) bX10_statements kL_125 dL_law_420 rfl ⟨_, _, _, _, rfl, rfl⟩ rfl (by decide) ⟨by omega, by omega⟩ (Nat.le_of_ble_eq_true rfl) (det ?_)
  rw [show LM.length = 21 from rfl]
  refine xicmp_eq hk 1875 dL_law_423 (by decide) (fun _ => ?_) (fun hne => absurd rfl hne)
  refine xsub [(0, .ref b), (1, .ref (a 0)), (2, .ref (a 49)), (3, .ref (a 48)), (4, .int i)] rfl ?_
  exact xwiden (by omega) (by omega) (kk a _ (hcg hI1 (cg_lawF (fun _ _ _ => ⟨rfl, rfl⟩) ⟨by decide, by decide⟩) cg_lawM))
set_option maxHeartbeats 4000000 in
set_option maxRecDepth 100000 in
theorem law_orders {k : Kx} {nm : String} (hk : Fok k code 9 RL ret nm 1312 601000 7293000) (hNc : NcK k) (hfl : (kg k).1.stackTraces = false) {b M : Nat} {xs : Nat → Int32} (hsc : ScK k b M xs) {i : Int32}  {I : XS → XS → Prop} (hcg : Cong I) (hMK : MKs I) (hA : AgN I f_X8_orders (fun z => some (z.1 11 5, r0 z))) {a : Nat → Nat} {x : XS} {cells slots : Nat} (hI : I x (pul 49 x)) (hrm : cells + 30 ≤ 601000 ∧ slots + 3000 ≤ 7293000)
    (kk : ∀ (a : Nat → Nat) (x : XS), I x (pul 49 x) → Wx k (cells + 30) (slots + 3000) LL a x 1875 [(0, .ref b), (1, .ref (a 0)), (2, .ref (a 49)), (3, .ref (a 48)), (4, .int i)] []) : Wx k cells slots LL a x 428 [(0, .ref b), (1, .ref (a 0)), (2, .ref (a 49)), (3, .ref (a 48)), (4, .int i)] [] := by
  obtain ⟨v, x1, z1, hu, hw, hI1⟩ := hA x (pul 49 x) hI
  obtain ⟨rfl, rfl⟩ := Prod.mk.inj (Option.some.inj hw)
  refine xaload_n hk dL_law_428 rfl ?_
  refine xcallVO 0 sub_F pa0 px0 hk (c_X8_orders hu) bX8_orders kL_126 dL_law_429 rfl ⟨_, _, _, _, rfl, rfl⟩ rfl (by decide) ⟨by omega, by omega⟩ (Nat.le_of_ble_eq_true rfl) (det ?_)
  rw [show LF.length = 48 from rfl]
  refine xaload_n hk dL_law_432 rfl ?_
  refine xcallVO 49 sub_M rfl (pul49 (by decide)) hk (c_X10_orders (hMK hI).1) bX10_orders kL_129 dL_law_433 rfl ⟨_, _, _, _, rfl, rfl⟩ rfl (by decide) ⟨by omega, by omega⟩ (Nat.le_of_ble_eq_true rfl) (det ?_)
  rw [show LM.length = 21 from rfl]
  refine xicmp_eq hk 1875 dL_law_436 (by decide) (fun _ => ?_) (fun hne => absurd rfl hne)
  refine xsub [(0, .ref b), (1, .ref (a 0)), (2, .ref (a 49)), (3, .ref (a 48)), (4, .int i)] rfl ?_
  exact xwiden (by omega) (by omega) (kk a _ (hcg hI1 (cg_lawF (fun _ _ _ => ⟨rfl, rfl⟩) ⟨by decide, by decide⟩) cg_lawM))
set_option maxHeartbeats 4000000 in
set_option maxRecDepth 100000 in
theorem law_days {k : Kx} {nm : String} (hk : Fok k code 9 RL ret nm 1312 601000 7293000) (hNc : NcK k) (hfl : (kg k).1.stackTraces = false) {b M : Nat} {xs : Nat → Int32} (hsc : ScK k b M xs) {i : Int32}  {I : XS → XS → Prop} (hcg : Cong I) (hMK : MKs I) (hA : AgN I f_X8_days (fun z => some (z.1 0 13, r0 z))) {a : Nat → Nat} {x : XS} {cells slots : Nat} (hI : I x (pul 49 x)) (hrm : cells + 30 ≤ 601000 ∧ slots + 3000 ≤ 7293000)
    (kk : ∀ (a : Nat → Nat) (x : XS), I x (pul 49 x) → Wx k (cells + 30) (slots + 3000) LL a x 1875 [(0, .ref b), (1, .ref (a 0)), (2, .ref (a 49)), (3, .ref (a 48)), (4, .int i)] []) : Wx k cells slots LL a x 441 [(0, .ref b), (1, .ref (a 0)), (2, .ref (a 49)), (3, .ref (a 48)), (4, .int i)] [] := by
  obtain ⟨v, x1, z1, hu, hw, hI1⟩ := hA x (pul 49 x) hI
  obtain ⟨rfl, rfl⟩ := Prod.mk.inj (Option.some.inj hw)
  refine xaload_n hk dL_law_441 rfl ?_
  refine xcallVO 0 sub_F pa0 px0 hk (c_X8_days hu) bX8_days kL_130 dL_law_442 rfl ⟨_, _, _, _, rfl, rfl⟩ rfl (by decide) ⟨by omega, by omega⟩ (Nat.le_of_ble_eq_true rfl) (det ?_)
  rw [show LF.length = 48 from rfl]
  refine xaload_n hk dL_law_445 rfl ?_
  refine xcallVO 49 sub_M rfl (pul49 (by decide)) hk (c_X10_days (hMK hI).1) bX10_days kL_133 dL_law_446 rfl ⟨_, _, _, _, rfl, rfl⟩ rfl (by decide) ⟨by omega, by omega⟩ (Nat.le_of_ble_eq_true rfl) (det ?_)
  rw [show LM.length = 21 from rfl]
  refine xicmp_eq hk 1875 dL_law_449 (by decide) (fun _ => ?_) (fun hne => absurd rfl hne)
  refine xsub [(0, .ref b), (1, .ref (a 0)), (2, .ref (a 49)), (3, .ref (a 48)), (4, .int i)] rfl ?_
  exact xwiden (by omega) (by omega) (kk a _ (hcg hI1 (cg_lawF (fun _ _ _ => ⟨rfl, rfl⟩) ⟨by decide, by decide⟩) cg_lawM))
set_option maxHeartbeats 4000000 in
set_option maxRecDepth 100000 in
theorem law_ordersCarriedOut {k : Kx} {nm : String} (hk : Fok k code 9 RL ret nm 1312 601000 7293000) (hNc : NcK k) (hfl : (kg k).1.stackTraces = false) {b M : Nat} {xs : Nat → Int32} (hsc : ScK k b M xs) {i : Int32}  {I : XS → XS → Prop} (hcg : Cong I) (hMK : MKs I) (hA : AgN I f_X8_ordersCarriedOut (fun z => some (z.1 0 14, r0 z))) {a : Nat → Nat} {x : XS} {cells slots : Nat} (hI : I x (pul 49 x)) (hrm : cells + 30 ≤ 601000 ∧ slots + 3000 ≤ 7293000)
    (kk : ∀ (a : Nat → Nat) (x : XS), I x (pul 49 x) → Wx k (cells + 30) (slots + 3000) LL a x 1875 [(0, .ref b), (1, .ref (a 0)), (2, .ref (a 49)), (3, .ref (a 48)), (4, .int i)] []) : Wx k cells slots LL a x 454 [(0, .ref b), (1, .ref (a 0)), (2, .ref (a 49)), (3, .ref (a 48)), (4, .int i)] [] := by
  obtain ⟨v, x1, z1, hu, hw, hI1⟩ := hA x (pul 49 x) hI
  obtain ⟨rfl, rfl⟩ := Prod.mk.inj (Option.some.inj hw)
  refine xaload_n hk dL_law_454 rfl ?_
  refine xcallVO 0 sub_F pa0 px0 hk (c_X8_ordersCarriedOut hu) bX8_ordersCarriedOut kL_134 dL_law_455 rfl ⟨_, _, _, _, rfl, rfl⟩ rfl (by decide) ⟨by omega, by omega⟩ (Nat.le_of_ble_eq_true rfl) (det ?_)
  rw [show LF.length = 48 from rfl]
  refine xaload_n hk dL_law_458 rfl ?_
  refine xcallVO 49 sub_M rfl (pul49 (by decide)) hk (c_X10_ordersCarriedOut (hMK hI).1) bX10_ordersCarriedOut kL_137 dL_law_459 rfl ⟨_, _, _, _, rfl, rfl⟩ rfl (by decide) ⟨by omega, by omega⟩ (Nat.le_of_ble_eq_true rfl) (det ?_)
  rw [show LM.length = 21 from rfl]
  refine xicmp_eq hk 1875 dL_law_462 (by decide) (fun _ => ?_) (fun hne => absurd rfl hne)
  refine xsub [(0, .ref b), (1, .ref (a 0)), (2, .ref (a 49)), (3, .ref (a 48)), (4, .int i)] rfl ?_
  exact xwiden (by omega) (by omega) (kk a _ (hcg hI1 (cg_lawF (fun _ _ _ => ⟨rfl, rfl⟩) ⟨by decide, by decide⟩) cg_lawM))
set_option maxHeartbeats 4000000 in
set_option maxRecDepth 100000 in
theorem law_tapeBytes {k : Kx} {nm : String} (hk : Fok k code 9 RL ret nm 1312 601000 7293000) (hNc : NcK k) (hfl : (kg k).1.stackTraces = false) {b M : Nat} {xs : Nat → Int32} (hsc : ScK k b M xs) {i : Int32}  {I : XS → XS → Prop} (hcg : Cong I) (hMK : MKs I) (hA : AgN I f_X8_tapeBytes (fun z => some (z.1 0 2, r0 z))) {a : Nat → Nat} {x : XS} {cells slots : Nat} (hI : I x (pul 49 x)) (hrm : cells + 30 ≤ 601000 ∧ slots + 3000 ≤ 7293000)
    (kk : ∀ (a : Nat → Nat) (x : XS), I x (pul 49 x) → Wx k (cells + 30) (slots + 3000) LL a x 1875 [(0, .ref b), (1, .ref (a 0)), (2, .ref (a 49)), (3, .ref (a 48)), (4, .int i)] []) : Wx k cells slots LL a x 467 [(0, .ref b), (1, .ref (a 0)), (2, .ref (a 49)), (3, .ref (a 48)), (4, .int i)] [] := by
  obtain ⟨v, x1, z1, hu, hw, hI1⟩ := hA x (pul 49 x) hI
  obtain ⟨rfl, rfl⟩ := Prod.mk.inj (Option.some.inj hw)
  refine xaload_n hk dL_law_467 rfl ?_
  refine xcallVO 0 sub_F pa0 px0 hk (c_X8_tapeBytes hu) bX8_tapeBytes kL_138 dL_law_468 rfl ⟨_, _, _, _, rfl, rfl⟩ rfl (by decide) ⟨by omega, by omega⟩ (Nat.le_of_ble_eq_true rfl) (det ?_)
  rw [show LF.length = 48 from rfl]
  refine xaload_n hk dL_law_471 rfl ?_
  refine xcallVO 49 sub_M rfl (pul49 (by decide)) hk (c_X10_tapeBytes (hMK hI).1) bX10_tapeBytes kL_141 dL_law_472 rfl ⟨_, _, _, _, rfl, rfl⟩ rfl (by decide) ⟨by omega, by omega⟩ (Nat.le_of_ble_eq_true rfl) (det ?_)
  rw [show LM.length = 21 from rfl]
  refine xicmp_eq hk 1875 dL_law_475 (by decide) (fun _ => ?_) (fun hne => absurd rfl hne)
  refine xsub [(0, .ref b), (1, .ref (a 0)), (2, .ref (a 49)), (3, .ref (a 48)), (4, .int i)] rfl ?_
  exact xwiden (by omega) (by omega) (kk a _ (hcg hI1 (cg_lawF (fun _ _ _ => ⟨rfl, rfl⟩) ⟨by decide, by decide⟩) cg_lawM))
set_option maxHeartbeats 4000000 in
set_option maxRecDepth 100000 in
theorem law_standing {k : Kx} {nm : String} (hk : Fok k code 9 RL ret nm 1312 601000 7293000) (hNc : NcK k) (hfl : (kg k).1.stackTraces = false) {b M : Nat} {xs : Nat → Int32} (hsc : ScK k b M xs) {i : Int32}  {I : XS → XS → Prop} (hcg : Cong I) (hMK : MKs I) (hA : AgN I f_X8_standing (fun z => some (bcI (z.1 0 15), r0 z))) {a : Nat → Nat} {x : XS} {cells slots : Nat} (hI : I x (pul 49 x)) (hrm : cells + 30 ≤ 601000 ∧ slots + 3000 ≤ 7293000)
    (kk : ∀ (a : Nat → Nat) (x : XS), I x (pul 49 x) → Wx k (cells + 30) (slots + 3000) LL a x 1875 [(0, .ref b), (1, .ref (a 0)), (2, .ref (a 49)), (3, .ref (a 48)), (4, .int i)] []) : Wx k cells slots LL a x 480 [(0, .ref b), (1, .ref (a 0)), (2, .ref (a 49)), (3, .ref (a 48)), (4, .int i)] [] := by
  obtain ⟨v, x1, z1, hu, hw, hI1⟩ := hA x (pul 49 x) hI
  obtain ⟨rfl, rfl⟩ := Prod.mk.inj (Option.some.inj hw)
  refine xaload_n hk dL_law_480 rfl ?_
  refine xcallVO 0 sub_F pa0 px0 hk (c_X8_standing hu) bX8_standing kL_142 dL_law_481 rfl ⟨_, _, _, _, rfl, rfl⟩ rfl (by decide) ⟨by omega, by omega⟩ (Nat.le_of_ble_eq_true rfl) (det ?_)
  rw [show LF.length = 48 from rfl]
  refine xaload_n hk dL_law_484 rfl ?_
  refine xcallVO 49 sub_M rfl (pul49 (by decide)) hk (c_X10_standing (hMK hI).1) bX10_standing kL_145 dL_law_485 rfl ⟨_, _, _, _, rfl, rfl⟩ rfl (by decide) ⟨by omega, by omega⟩ (Nat.le_of_ble_eq_true rfl) (det ?_)
  rw [show LM.length = 21 from rfl]
  refine xicmp_eq hk 1875 dL_law_488 (by decide) (fun _ => ?_) (fun hne => absurd rfl hne)
  refine xsub [(0, .ref b), (1, .ref (a 0)), (2, .ref (a 49)), (3, .ref (a 48)), (4, .int i)] rfl ?_
  exact xwiden (by omega) (by omega) (kk a _ (hcg hI1 (cg_lawF (fun _ _ _ => ⟨rfl, rfl⟩) ⟨by decide, by decide⟩) cg_lawM))
theorem cw_kindOf : CBw yL_kindOf cL_kindOf 4 (some .int) [(0, 9, 12, 24)] 3 := ⟨gw_mem 914 (by decide +kernel) (by decide +kernel), gw_mem 0 (by decide +kernel) (by decide +kernel), gw_mem 913 (by decide +kernel) (by decide +kernel), by decide +kernel, by decide⟩
set_option maxHeartbeats 4000000 in
set_option maxRecDepth 100000 in
theorem law_kindOf {k : Kx} {nm : String} (hk : Fok k code 9 RL ret nm 1312 601000 7293000) (hNc : NcK k) (hfl : (kg k).1.stackTraces = false) {b M : Nat} {xs : Nat → Int32} (hsc : ScK k b M xs) {i : Int32} (hv1 : vp_in (i + 1) M) {I : XS → XS → Prop} (hcg : Cong I) (hMK : MKs I) (hA : AgT I code1 cvI (fun E => E = "java/lang/IndexOutOfBoundsException") (f_X8_kindOf (xs (i + 1).toNatClampNeg)) (fun z => some (kindU (xs (i + 1).toNatClampNeg) (r0 z)))) {a : Nat → Nat} {x : XS} {cells slots : Nat} (hI : I x (pul 49 x)) (hrm : cells + 30 ≤ 601000 ∧ slots + 3000 ≤ 7293000)
    (kk : ∀ (a : Nat → Nat) (x : XS), I x (pul 49 x) → Wx k (cells + 30) (slots + 3000) LL a x 1875 [(0, .ref b), (1, .ref (a 0)), (2, .ref (a 49)), (3, .ref (a 48)), (4, .int i)] []) : Wx k cells slots LL a x 493 [(0, .ref b), (1, .ref (a 0)), (2, .ref (a 49)), (3, .ref (a 48)), (4, .int i)] [] := by
  rcases hA x (pul 49 x) hI with ⟨E, x1, w, hu, hw, hth, hes, hI1⟩ | ⟨v, x1, w, hu, hw, hth, hcv, hI1⟩
  · obtain rfl := Option.some.inj hw
    refine xaload_n hk dL_law_493 rfl ?_
    refine xaload_n hk dL_law_494 rfl ?_
    refine xiload hk dL_law_495 rfl ?_
    refine xiconst (v := 1) hk dL_law_497 (by decide) ?_
    refine xiadd hk dL_law_498 ?_
    refine xsld hk hsc dL_law_499 hv1 ?_
    refine xaload_n hk dL_law_500 rfl ?_
    refine xcallSWO 0 sub_FO pa0 px0 hk hNc (w_kindOf hfl hu (fun E x h => by cases h; exact hes) (fun v x h => by cases h)) cw_kindOf kL_146 dL_law_501 rfl rfl (by decide) ⟨by omega, by omega⟩ (Nat.le_of_ble_eq_true rfl) ?_
    rintro _ x9 hw9
    obtain ⟨rfl, rfl⟩ := hw9
    rw [show LFO.length = 49 from rfl]
    refine xistore hk dL_law_504 (by decide) ?_
    refine xaload_n hk dL_law_506 rfl ?_
    refine xaload_n hk dL_law_507 rfl ?_
    refine xiload hk dL_law_508 rfl ?_
    refine xiconst (v := 1) hk dL_law_510 (by decide) ?_
    refine xiadd hk dL_law_511 ?_
    refine xsld hk hsc dL_law_512 hv1 ?_
    refine xcallVO 49 sub_M rfl (pul49 (by decide)) hk (c_X10_kindOf (hMK hI).1) bX10_kindOf kL_148 dL_law_513 rfl ⟨_, _, _, _, rfl, rfl⟩ rfl (by decide) ⟨by omega, by omega⟩ (Nat.le_of_ble_eq_true rfl) (det ?_)
    rw [show LM.length = 21 from rfl]
    refine xistore hk dL_law_516 (by decide) ?_
    refine xaload_n hk dL_law_518 rfl ?_
    refine xcallVO 49 sub_M rfl rfl hk c_X10_thrown bX10_thrown kL_103 dL_law_519 rfl ⟨_, _, _, _, rfl, rfl⟩ rfl (by decide) ⟨by omega, by omega⟩ (Nat.le_of_ble_eq_true rfl) (det ?_)
    rw [show LM.length = 21 from rfl, xmix_self, thr_at, hth]
    refine xiload hk dL_law_522 rfl ?_
    refine xicmp_eq hk 529 dL_law_524 (by decide) (fun _ => ?_) (fun hne => absurd rfl hne)
    refine xiload hk dL_law_529 rfl ?_
    refine xif_ne hk 546 dL_law_531 (by decide) (fun _ => ?_) (fun hz => absurd hz (code1_ne _))
    refine xgoto hk 1875 dL_law_546 (by decide) ?_
    refine xsub [(0, .ref b), (1, .ref (a 0)), (2, .ref (a 49)), (3, .ref (a 48)), (4, .int i)] rfl ?_
    exact xwiden (by omega) (by omega) (kk a _ (hcg hI1 (cg_lawF mix48 ⟨by decide, by decide⟩) cg_lawM))
  · obtain rfl := Option.some.inj hw
    refine xaload_n hk dL_law_493 rfl ?_
    refine xaload_n hk dL_law_494 rfl ?_
    refine xiload hk dL_law_495 rfl ?_
    refine xiconst (v := 1) hk dL_law_497 (by decide) ?_
    refine xiadd hk dL_law_498 ?_
    refine xsld hk hsc dL_law_499 hv1 ?_
    refine xaload_n hk dL_law_500 rfl ?_
    refine xcallSWO 0 sub_FO pa0 px0 hk hNc (w_kindOf hfl hu (fun E x h => by cases h) (fun v x h => by cases h; exact ⟨_, rfl⟩)) cw_kindOf kL_146 dL_law_501 rfl rfl (by decide) ⟨by omega, by omega⟩ (Nat.le_of_ble_eq_true rfl) ?_
    rintro _ x9 hw9
    obtain ⟨rfl, rfl⟩ := hw9
    rw [show LFO.length = 49 from rfl]
    refine xistore hk dL_law_504 (by decide) ?_
    refine xaload_n hk dL_law_506 rfl ?_
    refine xaload_n hk dL_law_507 rfl ?_
    refine xiload hk dL_law_508 rfl ?_
    refine xiconst (v := 1) hk dL_law_510 (by decide) ?_
    refine xiadd hk dL_law_511 ?_
    refine xsld hk hsc dL_law_512 hv1 ?_
    refine xcallVO 49 sub_M rfl (pul49 (by decide)) hk (c_X10_kindOf (hMK hI).1) bX10_kindOf kL_148 dL_law_513 rfl ⟨_, _, _, _, rfl, rfl⟩ rfl (by decide) ⟨by omega, by omega⟩ (Nat.le_of_ble_eq_true rfl) (det ?_)
    rw [show LM.length = 21 from rfl]
    refine xistore hk dL_law_516 (by decide) ?_
    refine xaload_n hk dL_law_518 rfl ?_
    refine xcallVO 49 sub_M rfl rfl hk c_X10_thrown bX10_thrown kL_103 dL_law_519 rfl ⟨_, _, _, _, rfl, rfl⟩ rfl (by decide) ⟨by omega, by omega⟩ (Nat.le_of_ble_eq_true rfl) (det ?_)
    rw [show LM.length = 21 from rfl, xmix_self, thr_at, hth]
    refine xiload hk dL_law_522 rfl ?_
    refine xicmp_eq hk 529 dL_law_524 (by decide) (fun _ => ?_) (fun hne => absurd rfl hne)
    refine xiload hk dL_law_529 rfl ?_
    refine xif_ne hk 546 dL_law_531 (by decide) (fun hz => absurd rfl hz) (fun _ => ?_)
    refine xaload_n hk dL_law_534 rfl ?_
    refine xiconst (v := 0) hk dL_law_535 (by decide) ?_
    refine xlald hk dL_law_536 rfl (inB_v (by decide)) ?_
    rw [show (0 : Int32).toNatClampNeg = 0 from rfl, out_at, hcv]
    refine xiload hk dL_law_537 rfl ?_
    refine xi2l hk dL_law_539 ?_
    refine xlcmp hk dL_law_540 ?_
    refine xif_eq hk 546 dL_law_541 (by decide) (fun _ => ?_) (fun hz => absurd (lg_self _) hz)
    refine xgoto hk 1875 dL_law_546 (by decide) ?_
    refine xsub [(0, .ref b), (1, .ref (a 0)), (2, .ref (a 49)), (3, .ref (a 48)), (4, .int i)] rfl ?_
    exact xwiden (by omega) (by omega) (kk a _ (hcg hI1 (cg_lawF mix48o ⟨by decide, by decide⟩) cg_lawM))
theorem cw_firstClaimOf : CBw yL_firstClaimOf cL_firstClaimOf 4 (some .int) [(0, 9, 12, 24)] 3 := ⟨gw_mem 942 (by decide +kernel) (by decide +kernel), gw_mem 0 (by decide +kernel) (by decide +kernel), gw_mem 941 (by decide +kernel) (by decide +kernel), by decide +kernel, by decide⟩
set_option maxHeartbeats 4000000 in
set_option maxRecDepth 100000 in
theorem law_firstClaimOf {k : Kx} {nm : String} (hk : Fok k code 9 RL ret nm 1312 601000 7293000) (hNc : NcK k) (hfl : (kg k).1.stackTraces = false) {b M : Nat} {xs : Nat → Int32} (hsc : ScK k b M xs) {i : Int32} (hv1 : vp_in (i + 1) M) {I : XS → XS → Prop} (hcg : Cong I) (hMK : MKs I) (hA : AgT I code1 cvI (fun E => E = "java/lang/IndexOutOfBoundsException") (f_X8_firstClaimOf (xs (i + 1).toNatClampNeg)) (fun z => some (fstU 13 (xs (i + 1).toNatClampNeg) (r0 z)))) {a : Nat → Nat} {x : XS} {cells slots : Nat} (hI : I x (pul 49 x)) (hrm : cells + 30 ≤ 601000 ∧ slots + 3000 ≤ 7293000)
    (kk : ∀ (a : Nat → Nat) (x : XS), I x (pul 49 x) → Wx k (cells + 30) (slots + 3000) LL a x 1875 [(0, .ref b), (1, .ref (a 0)), (2, .ref (a 49)), (3, .ref (a 48)), (4, .int i)] []) : Wx k cells slots LL a x 549 [(0, .ref b), (1, .ref (a 0)), (2, .ref (a 49)), (3, .ref (a 48)), (4, .int i)] [] := by
  rcases hA x (pul 49 x) hI with ⟨E, x1, w, hu, hw, hth, hes, hI1⟩ | ⟨v, x1, w, hu, hw, hth, hcv, hI1⟩
  · obtain rfl := Option.some.inj hw
    refine xaload_n hk dL_law_549 rfl ?_
    refine xaload_n hk dL_law_550 rfl ?_
    refine xiload hk dL_law_551 rfl ?_
    refine xiconst (v := 1) hk dL_law_553 (by decide) ?_
    refine xiadd hk dL_law_554 ?_
    refine xsld hk hsc dL_law_555 hv1 ?_
    refine xaload_n hk dL_law_556 rfl ?_
    refine xcallSWO 0 sub_FO pa0 px0 hk hNc (w_firstClaimOf hfl hu (fun E x h => by cases h; exact hes) (fun v x h => by cases h)) cw_firstClaimOf kL_149 dL_law_557 rfl rfl (by decide) ⟨by omega, by omega⟩ (Nat.le_of_ble_eq_true rfl) ?_
    rintro _ x9 hw9
    obtain ⟨rfl, rfl⟩ := hw9
    rw [show LFO.length = 49 from rfl]
    refine xistore hk dL_law_560 (by decide) ?_
    refine xaload_n hk dL_law_562 rfl ?_
    refine xaload_n hk dL_law_563 rfl ?_
    refine xiload hk dL_law_564 rfl ?_
    refine xiconst (v := 1) hk dL_law_566 (by decide) ?_
    refine xiadd hk dL_law_567 ?_
    refine xsld hk hsc dL_law_568 hv1 ?_
    refine xcallVO 49 sub_M rfl (pul49 (by decide)) hk (c_X10_firstClaimOf (hMK hI).1) bX10_firstClaimOf kL_151 dL_law_569 rfl ⟨_, _, _, _, rfl, rfl⟩ rfl (by decide) ⟨by omega, by omega⟩ (Nat.le_of_ble_eq_true rfl) (det ?_)
    rw [show LM.length = 21 from rfl]
    refine xistore hk dL_law_572 (by decide) ?_
    refine xaload_n hk dL_law_574 rfl ?_
    refine xcallVO 49 sub_M rfl rfl hk c_X10_thrown bX10_thrown kL_103 dL_law_575 rfl ⟨_, _, _, _, rfl, rfl⟩ rfl (by decide) ⟨by omega, by omega⟩ (Nat.le_of_ble_eq_true rfl) (det ?_)
    rw [show LM.length = 21 from rfl, xmix_self, thr_at, hth]
    refine xiload hk dL_law_578 rfl ?_
    refine xicmp_eq hk 585 dL_law_580 (by decide) (fun _ => ?_) (fun hne => absurd rfl hne)
    refine xiload hk dL_law_585 rfl ?_
    refine xif_ne hk 602 dL_law_587 (by decide) (fun _ => ?_) (fun hz => absurd hz (code1_ne _))
    refine xgoto hk 1875 dL_law_602 (by decide) ?_
    refine xsub [(0, .ref b), (1, .ref (a 0)), (2, .ref (a 49)), (3, .ref (a 48)), (4, .int i)] rfl ?_
    exact xwiden (by omega) (by omega) (kk a _ (hcg hI1 (cg_lawF mix48 ⟨by decide, by decide⟩) cg_lawM))
  · obtain rfl := Option.some.inj hw
    refine xaload_n hk dL_law_549 rfl ?_
    refine xaload_n hk dL_law_550 rfl ?_
    refine xiload hk dL_law_551 rfl ?_
    refine xiconst (v := 1) hk dL_law_553 (by decide) ?_
    refine xiadd hk dL_law_554 ?_
    refine xsld hk hsc dL_law_555 hv1 ?_
    refine xaload_n hk dL_law_556 rfl ?_
    refine xcallSWO 0 sub_FO pa0 px0 hk hNc (w_firstClaimOf hfl hu (fun E x h => by cases h) (fun v x h => by cases h; exact ⟨_, rfl⟩)) cw_firstClaimOf kL_149 dL_law_557 rfl rfl (by decide) ⟨by omega, by omega⟩ (Nat.le_of_ble_eq_true rfl) ?_
    rintro _ x9 hw9
    obtain ⟨rfl, rfl⟩ := hw9
    rw [show LFO.length = 49 from rfl]
    refine xistore hk dL_law_560 (by decide) ?_
    refine xaload_n hk dL_law_562 rfl ?_
    refine xaload_n hk dL_law_563 rfl ?_
    refine xiload hk dL_law_564 rfl ?_
    refine xiconst (v := 1) hk dL_law_566 (by decide) ?_
    refine xiadd hk dL_law_567 ?_
    refine xsld hk hsc dL_law_568 hv1 ?_
    refine xcallVO 49 sub_M rfl (pul49 (by decide)) hk (c_X10_firstClaimOf (hMK hI).1) bX10_firstClaimOf kL_151 dL_law_569 rfl ⟨_, _, _, _, rfl, rfl⟩ rfl (by decide) ⟨by omega, by omega⟩ (Nat.le_of_ble_eq_true rfl) (det ?_)
    rw [show LM.length = 21 from rfl]
    refine xistore hk dL_law_572 (by decide) ?_
    refine xaload_n hk dL_law_574 rfl ?_
    refine xcallVO 49 sub_M rfl rfl hk c_X10_thrown bX10_thrown kL_103 dL_law_575 rfl ⟨_, _, _, _, rfl, rfl⟩ rfl (by decide) ⟨by omega, by omega⟩ (Nat.le_of_ble_eq_true rfl) (det ?_)
    rw [show LM.length = 21 from rfl, xmix_self, thr_at, hth]
    refine xiload hk dL_law_578 rfl ?_
    refine xicmp_eq hk 585 dL_law_580 (by decide) (fun _ => ?_) (fun hne => absurd rfl hne)
    refine xiload hk dL_law_585 rfl ?_
    refine xif_ne hk 602 dL_law_587 (by decide) (fun hz => absurd rfl hz) (fun _ => ?_)
    refine xaload_n hk dL_law_590 rfl ?_
    refine xiconst (v := 0) hk dL_law_591 (by decide) ?_
    refine xlald hk dL_law_592 rfl (inB_v (by decide)) ?_
    rw [show (0 : Int32).toNatClampNeg = 0 from rfl, out_at, hcv]
    refine xiload hk dL_law_593 rfl ?_
    refine xi2l hk dL_law_595 ?_
    refine xlcmp hk dL_law_596 ?_
    refine xif_eq hk 602 dL_law_597 (by decide) (fun _ => ?_) (fun hz => absurd (lg_self _) hz)
    refine xgoto hk 1875 dL_law_602 (by decide) ?_
    refine xsub [(0, .ref b), (1, .ref (a 0)), (2, .ref (a 49)), (3, .ref (a 48)), (4, .int i)] rfl ?_
    exact xwiden (by omega) (by omega) (kk a _ (hcg hI1 (cg_lawF mix48o ⟨by decide, by decide⟩) cg_lawM))
theorem cw_secondClaimOf : CBw yL_secondClaimOf cL_secondClaimOf 4 (some .int) [(0, 9, 12, 24)] 3 := ⟨gw_mem 949 (by decide +kernel) (by decide +kernel), gw_mem 0 (by decide +kernel) (by decide +kernel), gw_mem 948 (by decide +kernel) (by decide +kernel), by decide +kernel, by decide⟩
set_option maxHeartbeats 4000000 in
set_option maxRecDepth 100000 in
theorem law_secondClaimOf {k : Kx} {nm : String} (hk : Fok k code 9 RL ret nm 1312 601000 7293000) (hNc : NcK k) (hfl : (kg k).1.stackTraces = false) {b M : Nat} {xs : Nat → Int32} (hsc : ScK k b M xs) {i : Int32} (hv1 : vp_in (i + 1) M) {I : XS → XS → Prop} (hcg : Cong I) (hMK : MKs I) (hA : AgT I code1 cvI (fun E => E = "java/lang/IndexOutOfBoundsException") (f_X8_secondClaimOf (xs (i + 1).toNatClampNeg)) (fun z => some (fstU 14 (xs (i + 1).toNatClampNeg) (r0 z)))) {a : Nat → Nat} {x : XS} {cells slots : Nat} (hI : I x (pul 49 x)) (hrm : cells + 30 ≤ 601000 ∧ slots + 3000 ≤ 7293000)
    (kk : ∀ (a : Nat → Nat) (x : XS), I x (pul 49 x) → Wx k (cells + 30) (slots + 3000) LL a x 1875 [(0, .ref b), (1, .ref (a 0)), (2, .ref (a 49)), (3, .ref (a 48)), (4, .int i)] []) : Wx k cells slots LL a x 605 [(0, .ref b), (1, .ref (a 0)), (2, .ref (a 49)), (3, .ref (a 48)), (4, .int i)] [] := by
  rcases hA x (pul 49 x) hI with ⟨E, x1, w, hu, hw, hth, hes, hI1⟩ | ⟨v, x1, w, hu, hw, hth, hcv, hI1⟩
  · obtain rfl := Option.some.inj hw
    refine xaload_n hk dL_law_605 rfl ?_
    refine xaload_n hk dL_law_606 rfl ?_
    refine xiload hk dL_law_607 rfl ?_
    refine xiconst (v := 1) hk dL_law_609 (by decide) ?_
    refine xiadd hk dL_law_610 ?_
    refine xsld hk hsc dL_law_611 hv1 ?_
    refine xaload_n hk dL_law_612 rfl ?_
    refine xcallSWO 0 sub_FO pa0 px0 hk hNc (w_secondClaimOf hfl hu (fun E x h => by cases h; exact hes) (fun v x h => by cases h)) cw_secondClaimOf kL_152 dL_law_613 rfl rfl (by decide) ⟨by omega, by omega⟩ (Nat.le_of_ble_eq_true rfl) ?_
    rintro _ x9 hw9
    obtain ⟨rfl, rfl⟩ := hw9
    rw [show LFO.length = 49 from rfl]
    refine xistore hk dL_law_616 (by decide) ?_
    refine xaload_n hk dL_law_618 rfl ?_
    refine xaload_n hk dL_law_619 rfl ?_
    refine xiload hk dL_law_620 rfl ?_
    refine xiconst (v := 1) hk dL_law_622 (by decide) ?_
    refine xiadd hk dL_law_623 ?_
    refine xsld hk hsc dL_law_624 hv1 ?_
    refine xcallVO 49 sub_M rfl (pul49 (by decide)) hk (c_X10_secondClaimOf (hMK hI).1) bX10_secondClaimOf kL_154 dL_law_625 rfl ⟨_, _, _, _, rfl, rfl⟩ rfl (by decide) ⟨by omega, by omega⟩ (Nat.le_of_ble_eq_true rfl) (det ?_)
    rw [show LM.length = 21 from rfl]
    refine xistore hk dL_law_628 (by decide) ?_
    refine xaload_n hk dL_law_630 rfl ?_
    refine xcallVO 49 sub_M rfl rfl hk c_X10_thrown bX10_thrown kL_103 dL_law_631 rfl ⟨_, _, _, _, rfl, rfl⟩ rfl (by decide) ⟨by omega, by omega⟩ (Nat.le_of_ble_eq_true rfl) (det ?_)
    rw [show LM.length = 21 from rfl, xmix_self, thr_at, hth]
    refine xiload hk dL_law_634 rfl ?_
    refine xicmp_eq hk 641 dL_law_636 (by decide) (fun _ => ?_) (fun hne => absurd rfl hne)
    refine xiload hk dL_law_641 rfl ?_
    refine xif_ne hk 658 dL_law_643 (by decide) (fun _ => ?_) (fun hz => absurd hz (code1_ne _))
    refine xgoto hk 1875 dL_law_658 (by decide) ?_
    refine xsub [(0, .ref b), (1, .ref (a 0)), (2, .ref (a 49)), (3, .ref (a 48)), (4, .int i)] rfl ?_
    exact xwiden (by omega) (by omega) (kk a _ (hcg hI1 (cg_lawF mix48 ⟨by decide, by decide⟩) cg_lawM))
  · obtain rfl := Option.some.inj hw
    refine xaload_n hk dL_law_605 rfl ?_
    refine xaload_n hk dL_law_606 rfl ?_
    refine xiload hk dL_law_607 rfl ?_
    refine xiconst (v := 1) hk dL_law_609 (by decide) ?_
    refine xiadd hk dL_law_610 ?_
    refine xsld hk hsc dL_law_611 hv1 ?_
    refine xaload_n hk dL_law_612 rfl ?_
    refine xcallSWO 0 sub_FO pa0 px0 hk hNc (w_secondClaimOf hfl hu (fun E x h => by cases h) (fun v x h => by cases h; exact ⟨_, rfl⟩)) cw_secondClaimOf kL_152 dL_law_613 rfl rfl (by decide) ⟨by omega, by omega⟩ (Nat.le_of_ble_eq_true rfl) ?_
    rintro _ x9 hw9
    obtain ⟨rfl, rfl⟩ := hw9
    rw [show LFO.length = 49 from rfl]
    refine xistore hk dL_law_616 (by decide) ?_
    refine xaload_n hk dL_law_618 rfl ?_
    refine xaload_n hk dL_law_619 rfl ?_
    refine xiload hk dL_law_620 rfl ?_
    refine xiconst (v := 1) hk dL_law_622 (by decide) ?_
    refine xiadd hk dL_law_623 ?_
    refine xsld hk hsc dL_law_624 hv1 ?_
    refine xcallVO 49 sub_M rfl (pul49 (by decide)) hk (c_X10_secondClaimOf (hMK hI).1) bX10_secondClaimOf kL_154 dL_law_625 rfl ⟨_, _, _, _, rfl, rfl⟩ rfl (by decide) ⟨by omega, by omega⟩ (Nat.le_of_ble_eq_true rfl) (det ?_)
    rw [show LM.length = 21 from rfl]
    refine xistore hk dL_law_628 (by decide) ?_
    refine xaload_n hk dL_law_630 rfl ?_
    refine xcallVO 49 sub_M rfl rfl hk c_X10_thrown bX10_thrown kL_103 dL_law_631 rfl ⟨_, _, _, _, rfl, rfl⟩ rfl (by decide) ⟨by omega, by omega⟩ (Nat.le_of_ble_eq_true rfl) (det ?_)
    rw [show LM.length = 21 from rfl, xmix_self, thr_at, hth]
    refine xiload hk dL_law_634 rfl ?_
    refine xicmp_eq hk 641 dL_law_636 (by decide) (fun _ => ?_) (fun hne => absurd rfl hne)
    refine xiload hk dL_law_641 rfl ?_
    refine xif_ne hk 658 dL_law_643 (by decide) (fun hz => absurd rfl hz) (fun _ => ?_)
    refine xaload_n hk dL_law_646 rfl ?_
    refine xiconst (v := 0) hk dL_law_647 (by decide) ?_
    refine xlald hk dL_law_648 rfl (inB_v (by decide)) ?_
    rw [show (0 : Int32).toNatClampNeg = 0 from rfl, out_at, hcv]
    refine xiload hk dL_law_649 rfl ?_
    refine xi2l hk dL_law_651 ?_
    refine xlcmp hk dL_law_652 ?_
    refine xif_eq hk 658 dL_law_653 (by decide) (fun _ => ?_) (fun hz => absurd (lg_self _) hz)
    refine xgoto hk 1875 dL_law_658 (by decide) ?_
    refine xsub [(0, .ref b), (1, .ref (a 0)), (2, .ref (a 49)), (3, .ref (a 48)), (4, .int i)] rfl ?_
    exact xwiden (by omega) (by omega) (kk a _ (hcg hI1 (cg_lawF mix48o ⟨by decide, by decide⟩) cg_lawM))
theorem cw_stands : CBw yL_stands cL_stands 4 (some .int) [(0, 16, 19, 24)] 3 := ⟨gw_mem 956 (by decide +kernel) (by decide +kernel), gw_mem 0 (by decide +kernel) (by decide +kernel), gw_mem 955 (by decide +kernel) (by decide +kernel), by decide +kernel, by decide⟩
set_option maxHeartbeats 4000000 in
set_option maxRecDepth 100000 in
theorem law_stands {k : Kx} {nm : String} (hk : Fok k code 9 RL ret nm 1312 601000 7293000) (hNc : NcK k) (hfl : (kg k).1.stackTraces = false) {b M : Nat} {xs : Nat → Int32} (hsc : ScK k b M xs) {i : Int32} (hv1 : vp_in (i + 1) M) {I : XS → XS → Prop} (hcg : Cong I) (hMK : MKs I) (hA : AgT I code1 cvB (fun E => E = "java/lang/IndexOutOfBoundsException") (f_X8_stands (xs (i + 1).toNatClampNeg)) (mb (fun z => some (stdU (xs (i + 1).toNatClampNeg) (r0 z))))) {a : Nat → Nat} {x : XS} {cells slots : Nat} (hI : I x (pul 49 x)) (hrm : cells + 30 ≤ 601000 ∧ slots + 3000 ≤ 7293000)
    (kk : ∀ (a : Nat → Nat) (x : XS), I x (pul 49 x) → Wx k (cells + 30) (slots + 3000) LL a x 1875 [(0, .ref b), (1, .ref (a 0)), (2, .ref (a 49)), (3, .ref (a 48)), (4, .int i)] []) : Wx k cells slots LL a x 661 [(0, .ref b), (1, .ref (a 0)), (2, .ref (a 49)), (3, .ref (a 48)), (4, .int i)] [] := by
  rcases hA x (pul 49 x) hI with ⟨E, x1, w, hu, hw, hth, hes, hI1⟩ | ⟨v, x1, w, hu, hw, hth, hcv, hI1⟩
  · obtain ⟨w, hg, rfl⟩ := mb_some hw
    obtain rfl := Option.some.inj hg
    refine xaload_n hk dL_law_661 rfl ?_
    refine xaload_n hk dL_law_662 rfl ?_
    refine xiload hk dL_law_663 rfl ?_
    refine xiconst (v := 1) hk dL_law_665 (by decide) ?_
    refine xiadd hk dL_law_666 ?_
    refine xsld hk hsc dL_law_667 hv1 ?_
    refine xaload_n hk dL_law_668 rfl ?_
    refine xcallSWO 0 sub_FO pa0 px0 hk hNc (w_stands hfl hu (fun E x h => by cases h; exact hes) (fun v x h => by cases h)) cw_stands kL_155 dL_law_669 rfl rfl (by decide) ⟨by omega, by omega⟩ (Nat.le_of_ble_eq_true rfl) ?_
    rintro _ x9 hw9
    obtain ⟨rfl, rfl⟩ := hw9
    rw [show LFO.length = 49 from rfl]
    refine xistore hk dL_law_672 (by decide) ?_
    refine xaload_n hk dL_law_674 rfl ?_
    refine xaload_n hk dL_law_675 rfl ?_
    refine xiload hk dL_law_676 rfl ?_
    refine xiconst (v := 1) hk dL_law_678 (by decide) ?_
    refine xiadd hk dL_law_679 ?_
    refine xsld hk hsc dL_law_680 hv1 ?_
    refine xcallVO 49 sub_M rfl (pul49 (by decide)) hk (c_X10_stands (hMK hI).1) bX10_stands kL_157 dL_law_681 rfl ⟨_, _, _, _, rfl, rfl⟩ rfl (by decide) ⟨by omega, by omega⟩ (Nat.le_of_ble_eq_true rfl) (det ?_)
    rw [show LM.length = 21 from rfl]
    refine xistore hk dL_law_684 (by decide) ?_
    refine xaload_n hk dL_law_686 rfl ?_
    refine xcallVO 49 sub_M rfl rfl hk c_X10_thrown bX10_thrown kL_103 dL_law_687 rfl ⟨_, _, _, _, rfl, rfl⟩ rfl (by decide) ⟨by omega, by omega⟩ (Nat.le_of_ble_eq_true rfl) (det ?_)
    rw [show LM.length = 21 from rfl, xmix_self, thr_at, hth]
    refine xiload hk dL_law_690 rfl ?_
    refine xicmp_eq hk 697 dL_law_692 (by decide) (fun _ => ?_) (fun hne => absurd rfl hne)
    refine xiload hk dL_law_697 rfl ?_
    refine xif_ne hk 721 dL_law_699 (by decide) (fun _ => ?_) (fun hz => absurd hz (code1_ne _))
    refine xgoto hk 1875 dL_law_721 (by decide) ?_
    refine xsub [(0, .ref b), (1, .ref (a 0)), (2, .ref (a 49)), (3, .ref (a 48)), (4, .int i)] rfl ?_
    exact xwiden (by omega) (by omega) (kk a _ (hcg hI1 (cg_lawF mix48 ⟨by decide, by decide⟩) cg_lawM))
  · obtain ⟨w, hg, rfl⟩ := mb_some hw
    obtain rfl := Option.some.inj hg
    refine xaload_n hk dL_law_661 rfl ?_
    refine xaload_n hk dL_law_662 rfl ?_
    refine xiload hk dL_law_663 rfl ?_
    refine xiconst (v := 1) hk dL_law_665 (by decide) ?_
    refine xiadd hk dL_law_666 ?_
    refine xsld hk hsc dL_law_667 hv1 ?_
    refine xaload_n hk dL_law_668 rfl ?_
    refine xcallSWO 0 sub_FO pa0 px0 hk hNc (w_stands hfl hu (fun E x h => by cases h) (fun v x h => by cases h; exact ⟨_, rfl⟩)) cw_stands kL_155 dL_law_669 rfl rfl (by decide) ⟨by omega, by omega⟩ (Nat.le_of_ble_eq_true rfl) ?_
    rintro _ x9 hw9
    obtain ⟨rfl, rfl⟩ := hw9
    rw [show LFO.length = 49 from rfl]
    refine xistore hk dL_law_672 (by decide) ?_
    refine xaload_n hk dL_law_674 rfl ?_
    refine xaload_n hk dL_law_675 rfl ?_
    refine xiload hk dL_law_676 rfl ?_
    refine xiconst (v := 1) hk dL_law_678 (by decide) ?_
    refine xiadd hk dL_law_679 ?_
    refine xsld hk hsc dL_law_680 hv1 ?_
    refine xcallVO 49 sub_M rfl (pul49 (by decide)) hk (c_X10_stands (hMK hI).1) bX10_stands kL_157 dL_law_681 rfl ⟨_, _, _, _, rfl, rfl⟩ rfl (by decide) ⟨by omega, by omega⟩ (Nat.le_of_ble_eq_true rfl) (det ?_)
    rw [show LM.length = 21 from rfl]
    refine xistore hk dL_law_684 (by decide) ?_
    refine xaload_n hk dL_law_686 rfl ?_
    refine xcallVO 49 sub_M rfl rfl hk c_X10_thrown bX10_thrown kL_103 dL_law_687 rfl ⟨_, _, _, _, rfl, rfl⟩ rfl (by decide) ⟨by omega, by omega⟩ (Nat.le_of_ble_eq_true rfl) (det ?_)
    rw [show LM.length = 21 from rfl, xmix_self, thr_at, hth]
    refine xiload hk dL_law_690 rfl ?_
    refine xicmp_eq hk 697 dL_law_692 (by decide) (fun _ => ?_) (fun hne => absurd rfl hne)
    refine xiload hk dL_law_697 rfl ?_
    refine xif_ne hk 721 dL_law_699 (by decide) (fun hz => absurd rfl hz) (fun _ => ?_)
    refine xaload_n hk dL_law_702 rfl ?_
    refine xiconst (v := 0) hk dL_law_703 (by decide) ?_
    refine xlald hk dL_law_704 rfl (inB_v (by decide)) ?_
    rw [show (0 : Int32).toNatClampNeg = 0 from rfl, out_at, hcv]
    refine xiload hk dL_law_705 rfl ?_
    refine xif_eq hk 714 dL_law_707 (by decide) (fun hz => ?_) (fun hz => ?_)
    · refine xlconst (v := 0) hk dL_law_714 (by decide) ?_
      rw [cvB, if_pos hz]
      refine xlcmp hk dL_law_715 ?_
      refine xif_eq hk 721 dL_law_716 (by decide) (fun _ => ?_) (fun hz => absurd (lg_self _) hz)
      refine xgoto hk 1875 dL_law_721 (by decide) ?_
      refine xsub [(0, .ref b), (1, .ref (a 0)), (2, .ref (a 49)), (3, .ref (a 48)), (4, .int i)] rfl ?_
      exact xwiden (by omega) (by omega) (kk a _ (hcg hI1 (cg_lawF mix48o ⟨by decide, by decide⟩) cg_lawM))
    · refine xlconst (v := 1) hk dL_law_710 (by decide) ?_
      refine xgoto hk 715 dL_law_711 (by decide) ?_
      rw [cvB, if_neg hz]
      refine xlcmp hk dL_law_715 ?_
      refine xif_eq hk 721 dL_law_716 (by decide) (fun _ => ?_) (fun hz => absurd (lg_self _) hz)
      refine xgoto hk 1875 dL_law_721 (by decide) ?_
      refine xsub [(0, .ref b), (1, .ref (a 0)), (2, .ref (a 49)), (3, .ref (a 48)), (4, .int i)] rfl ?_
      exact xwiden (by omega) (by omega) (kk a _ (hcg hI1 (cg_lawF mix48o ⟨by decide, by decide⟩) cg_lawM))
theorem cw_isNeedless : CBw yL_isNeedless cL_isNeedless 4 (some .int) [(0, 16, 19, 24), (0, 16, 22, 13)] 3 := ⟨gw_mem 963 (by decide +kernel) (by decide +kernel), gw_mem 0 (by decide +kernel) (by decide +kernel), gw_mem 962 (by decide +kernel) (by decide +kernel), by decide +kernel, by decide⟩
set_option maxHeartbeats 4000000 in
set_option maxRecDepth 100000 in
theorem law_isNeedless {k : Kx} {nm : String} (hk : Fok k code 9 RL ret nm 1312 601000 7293000) (hNc : NcK k) (hfl : (kg k).1.stackTraces = false) {b M : Nat} {xs : Nat → Int32} (hsc : ScK k b M xs) {i : Int32} (hv1 : vp_in (i + 1) M) {I : XS → XS → Prop} (hcg : Cong I) (hMK : MKs I) (hA : AgT I code2 cvB (fun E => E = "java/lang/IndexOutOfBoundsException" ∨ E = "java/lang/IllegalStateException") (f_X8_isNeedless (xs (i + 1).toNatClampNeg)) (mb (fun z => some (needU (xs (i + 1).toNatClampNeg) (r0 z))))) {a : Nat → Nat} {x : XS} {cells slots : Nat} (hI : I x (pul 49 x)) (hrm : cells + 30 ≤ 601000 ∧ slots + 3000 ≤ 7293000)
    (kk : ∀ (a : Nat → Nat) (x : XS), I x (pul 49 x) → Wx k (cells + 30) (slots + 3000) LL a x 1875 [(0, .ref b), (1, .ref (a 0)), (2, .ref (a 49)), (3, .ref (a 48)), (4, .int i)] []) : Wx k cells slots LL a x 724 [(0, .ref b), (1, .ref (a 0)), (2, .ref (a 49)), (3, .ref (a 48)), (4, .int i)] [] := by
  rcases hA x (pul 49 x) hI with ⟨E, x1, w, hu, hw, hth, hes, hI1⟩ | ⟨v, x1, w, hu, hw, hth, hcv, hI1⟩
  · obtain ⟨w, hg, rfl⟩ := mb_some hw
    obtain rfl := Option.some.inj hg
    refine xaload_n hk dL_law_724 rfl ?_
    refine xaload_n hk dL_law_725 rfl ?_
    refine xiload hk dL_law_726 rfl ?_
    refine xiconst (v := 1) hk dL_law_728 (by decide) ?_
    refine xiadd hk dL_law_729 ?_
    refine xsld hk hsc dL_law_730 hv1 ?_
    refine xaload_n hk dL_law_731 rfl ?_
    refine xcallSWO 0 sub_FO pa0 px0 hk hNc (w_isNeedless hfl hu (fun E x h => by cases h; exact hes) (fun v x h => by cases h)) cw_isNeedless kL_158 dL_law_732 rfl rfl (by decide) ⟨by omega, by omega⟩ (Nat.le_of_ble_eq_true rfl) ?_
    rintro _ x9 hw9
    obtain ⟨rfl, rfl⟩ := hw9
    rw [show LFO.length = 49 from rfl]
    refine xistore hk dL_law_735 (by decide) ?_
    refine xaload_n hk dL_law_737 rfl ?_
    refine xaload_n hk dL_law_738 rfl ?_
    refine xiload hk dL_law_739 rfl ?_
    refine xiconst (v := 1) hk dL_law_741 (by decide) ?_
    refine xiadd hk dL_law_742 ?_
    refine xsld hk hsc dL_law_743 hv1 ?_
    refine xcallVO 49 sub_M rfl (pul49 (by decide)) hk (c_X10_isNeedless (hMK hI).1) bX10_isNeedless kL_160 dL_law_744 rfl ⟨_, _, _, _, rfl, rfl⟩ rfl (by decide) ⟨by omega, by omega⟩ (Nat.le_of_ble_eq_true rfl) (det ?_)
    rw [show LM.length = 21 from rfl]
    refine xistore hk dL_law_747 (by decide) ?_
    refine xaload_n hk dL_law_749 rfl ?_
    refine xcallVO 49 sub_M rfl rfl hk c_X10_thrown bX10_thrown kL_103 dL_law_750 rfl ⟨_, _, _, _, rfl, rfl⟩ rfl (by decide) ⟨by omega, by omega⟩ (Nat.le_of_ble_eq_true rfl) (det ?_)
    rw [show LM.length = 21 from rfl, xmix_self, thr_at, hth]
    refine xiload hk dL_law_753 rfl ?_
    refine xicmp_eq hk 760 dL_law_755 (by decide) (fun _ => ?_) (fun hne => absurd rfl hne)
    refine xiload hk dL_law_760 rfl ?_
    refine xif_ne hk 784 dL_law_762 (by decide) (fun _ => ?_) (fun hz => absurd hz (code2_ne _))
    refine xgoto hk 1875 dL_law_784 (by decide) ?_
    refine xsub [(0, .ref b), (1, .ref (a 0)), (2, .ref (a 49)), (3, .ref (a 48)), (4, .int i)] rfl ?_
    exact xwiden (by omega) (by omega) (kk a _ (hcg hI1 (cg_lawF mix48 ⟨by decide, by decide⟩) cg_lawM))
  · obtain ⟨w, hg, rfl⟩ := mb_some hw
    obtain rfl := Option.some.inj hg
    refine xaload_n hk dL_law_724 rfl ?_
    refine xaload_n hk dL_law_725 rfl ?_
    refine xiload hk dL_law_726 rfl ?_
    refine xiconst (v := 1) hk dL_law_728 (by decide) ?_
    refine xiadd hk dL_law_729 ?_
    refine xsld hk hsc dL_law_730 hv1 ?_
    refine xaload_n hk dL_law_731 rfl ?_
    refine xcallSWO 0 sub_FO pa0 px0 hk hNc (w_isNeedless hfl hu (fun E x h => by cases h) (fun v x h => by cases h; exact ⟨_, rfl⟩)) cw_isNeedless kL_158 dL_law_732 rfl rfl (by decide) ⟨by omega, by omega⟩ (Nat.le_of_ble_eq_true rfl) ?_
    rintro _ x9 hw9
    obtain ⟨rfl, rfl⟩ := hw9
    rw [show LFO.length = 49 from rfl]
    refine xistore hk dL_law_735 (by decide) ?_
    refine xaload_n hk dL_law_737 rfl ?_
    refine xaload_n hk dL_law_738 rfl ?_
    refine xiload hk dL_law_739 rfl ?_
    refine xiconst (v := 1) hk dL_law_741 (by decide) ?_
    refine xiadd hk dL_law_742 ?_
    refine xsld hk hsc dL_law_743 hv1 ?_
    refine xcallVO 49 sub_M rfl (pul49 (by decide)) hk (c_X10_isNeedless (hMK hI).1) bX10_isNeedless kL_160 dL_law_744 rfl ⟨_, _, _, _, rfl, rfl⟩ rfl (by decide) ⟨by omega, by omega⟩ (Nat.le_of_ble_eq_true rfl) (det ?_)
    rw [show LM.length = 21 from rfl]
    refine xistore hk dL_law_747 (by decide) ?_
    refine xaload_n hk dL_law_749 rfl ?_
    refine xcallVO 49 sub_M rfl rfl hk c_X10_thrown bX10_thrown kL_103 dL_law_750 rfl ⟨_, _, _, _, rfl, rfl⟩ rfl (by decide) ⟨by omega, by omega⟩ (Nat.le_of_ble_eq_true rfl) (det ?_)
    rw [show LM.length = 21 from rfl, xmix_self, thr_at, hth]
    refine xiload hk dL_law_753 rfl ?_
    refine xicmp_eq hk 760 dL_law_755 (by decide) (fun _ => ?_) (fun hne => absurd rfl hne)
    refine xiload hk dL_law_760 rfl ?_
    refine xif_ne hk 784 dL_law_762 (by decide) (fun hz => absurd rfl hz) (fun _ => ?_)
    refine xaload_n hk dL_law_765 rfl ?_
    refine xiconst (v := 0) hk dL_law_766 (by decide) ?_
    refine xlald hk dL_law_767 rfl (inB_v (by decide)) ?_
    rw [show (0 : Int32).toNatClampNeg = 0 from rfl, out_at, hcv]
    refine xiload hk dL_law_768 rfl ?_
    refine xif_eq hk 777 dL_law_770 (by decide) (fun hz => ?_) (fun hz => ?_)
    · refine xlconst (v := 0) hk dL_law_777 (by decide) ?_
      rw [cvB, if_pos hz]
      refine xlcmp hk dL_law_778 ?_
      refine xif_eq hk 784 dL_law_779 (by decide) (fun _ => ?_) (fun hz => absurd (lg_self _) hz)
      refine xgoto hk 1875 dL_law_784 (by decide) ?_
      refine xsub [(0, .ref b), (1, .ref (a 0)), (2, .ref (a 49)), (3, .ref (a 48)), (4, .int i)] rfl ?_
      exact xwiden (by omega) (by omega) (kk a _ (hcg hI1 (cg_lawF mix48o ⟨by decide, by decide⟩) cg_lawM))
    · refine xlconst (v := 1) hk dL_law_773 (by decide) ?_
      refine xgoto hk 778 dL_law_774 (by decide) ?_
      rw [cvB, if_neg hz]
      refine xlcmp hk dL_law_778 ?_
      refine xif_eq hk 784 dL_law_779 (by decide) (fun _ => ?_) (fun hz => absurd (lg_self _) hz)
      refine xgoto hk 1875 dL_law_784 (by decide) ?_
      refine xsub [(0, .ref b), (1, .ref (a 0)), (2, .ref (a 49)), (3, .ref (a 48)), (4, .int i)] rfl ?_
      exact xwiden (by omega) (by omega) (kk a _ (hcg hI1 (cg_lawF mix48o ⟨by decide, by decide⟩) cg_lawM))
theorem cw_follows : CBw yL_follows cL_follows 5 (some .int) [(0, 17, 20, 24)] 4 := ⟨gw_mem 976 (by decide +kernel) (by decide +kernel), gw_mem 0 (by decide +kernel) (by decide +kernel), gw_mem 975 (by decide +kernel) (by decide +kernel), by decide +kernel, by decide⟩
set_option maxHeartbeats 4000000 in
set_option maxRecDepth 100000 in
theorem law_follows {k : Kx} {nm : String} (hk : Fok k code 9 RL ret nm 1312 601000 7293000) (hNc : NcK k) (hfl : (kg k).1.stackTraces = false) {b M : Nat} {xs : Nat → Int32} (hsc : ScK k b M xs) {i : Int32} (hv1 : vp_in (i + 1) M) (hv2 : vp_in (i + 2) M) {I : XS → XS → Prop} (hcg : Cong I) (hMK : MKs I) (hA : AgT I code1 cvB (fun E => E = "java/lang/IndexOutOfBoundsException") (f_X8_follows (xs (i + 1).toNatClampNeg) (xs (i + 2).toNatClampNeg)) (mb (fun z => some (folU (xs (i + 1).toNatClampNeg) (xs (i + 2).toNatClampNeg) (r0 z))))) {a : Nat → Nat} {x : XS} {cells slots : Nat} (hI : I x (pul 49 x)) (hrm : cells + 30 ≤ 601000 ∧ slots + 3000 ≤ 7293000)
    (kk : ∀ (a : Nat → Nat) (x : XS), I x (pul 49 x) → Wx k (cells + 30) (slots + 3000) LL a x 1875 [(0, .ref b), (1, .ref (a 0)), (2, .ref (a 49)), (3, .ref (a 48)), (4, .int i)] []) : Wx k cells slots LL a x 787 [(0, .ref b), (1, .ref (a 0)), (2, .ref (a 49)), (3, .ref (a 48)), (4, .int i)] [] := by
  rcases hA x (pul 49 x) hI with ⟨E, x1, w, hu, hw, hth, hes, hI1⟩ | ⟨v, x1, w, hu, hw, hth, hcv, hI1⟩
  · obtain ⟨w, hg, rfl⟩ := mb_some hw
    obtain rfl := Option.some.inj hg
    refine xaload_n hk dL_law_787 rfl ?_
    refine xaload_n hk dL_law_788 rfl ?_
    refine xiload hk dL_law_789 rfl ?_
    refine xiconst (v := 1) hk dL_law_791 (by decide) ?_
    refine xiadd hk dL_law_792 ?_
    refine xsld hk hsc dL_law_793 hv1 ?_
    refine xaload_n hk dL_law_794 rfl ?_
    refine xiload hk dL_law_795 rfl ?_
    refine xiconst (v := 2) hk dL_law_797 (by decide) ?_
    refine xiadd hk dL_law_798 ?_
    refine xsld hk hsc dL_law_799 hv2 ?_
    refine xaload_n hk dL_law_800 rfl ?_
    refine xcallSWO 0 sub_FO pa0 px0 hk hNc (w_follows hfl hu (fun E x h => by cases h; exact hes) (fun v x h => by cases h)) cw_follows kL_161 dL_law_801 rfl rfl (by decide) ⟨by omega, by omega⟩ (Nat.le_of_ble_eq_true rfl) ?_
    rintro _ x9 hw9
    obtain ⟨rfl, rfl⟩ := hw9
    rw [show LFO.length = 49 from rfl]
    refine xistore hk dL_law_804 (by decide) ?_
    refine xaload_n hk dL_law_806 rfl ?_
    refine xaload_n hk dL_law_807 rfl ?_
    refine xiload hk dL_law_808 rfl ?_
    refine xiconst (v := 1) hk dL_law_810 (by decide) ?_
    refine xiadd hk dL_law_811 ?_
    refine xsld hk hsc dL_law_812 hv1 ?_
    refine xaload_n hk dL_law_813 rfl ?_
    refine xiload hk dL_law_814 rfl ?_
    refine xiconst (v := 2) hk dL_law_816 (by decide) ?_
    refine xiadd hk dL_law_817 ?_
    refine xsld hk hsc dL_law_818 hv2 ?_
    refine xcallVO 49 sub_M rfl (pul49 (by decide)) hk (c_X10_follows (hMK hI).1) bX10_follows kL_164 dL_law_819 rfl ⟨_, _, _, _, rfl, rfl⟩ rfl (by decide) ⟨by omega, by omega⟩ (Nat.le_of_ble_eq_true rfl) (det ?_)
    rw [show LM.length = 21 from rfl]
    refine xistore hk dL_law_822 (by decide) ?_
    refine xaload_n hk dL_law_824 rfl ?_
    refine xcallVO 49 sub_M rfl rfl hk c_X10_thrown bX10_thrown kL_103 dL_law_825 rfl ⟨_, _, _, _, rfl, rfl⟩ rfl (by decide) ⟨by omega, by omega⟩ (Nat.le_of_ble_eq_true rfl) (det ?_)
    rw [show LM.length = 21 from rfl, xmix_self, thr_at, hth]
    refine xiload hk dL_law_828 rfl ?_
    refine xicmp_eq hk 835 dL_law_830 (by decide) (fun _ => ?_) (fun hne => absurd rfl hne)
    refine xiload hk dL_law_835 rfl ?_
    refine xif_ne hk 859 dL_law_837 (by decide) (fun _ => ?_) (fun hz => absurd hz (code1_ne _))
    refine xgoto hk 1875 dL_law_859 (by decide) ?_
    refine xsub [(0, .ref b), (1, .ref (a 0)), (2, .ref (a 49)), (3, .ref (a 48)), (4, .int i)] rfl ?_
    exact xwiden (by omega) (by omega) (kk a _ (hcg hI1 (cg_lawF mix48 ⟨by decide, by decide⟩) cg_lawM))
  · obtain ⟨w, hg, rfl⟩ := mb_some hw
    obtain rfl := Option.some.inj hg
    refine xaload_n hk dL_law_787 rfl ?_
    refine xaload_n hk dL_law_788 rfl ?_
    refine xiload hk dL_law_789 rfl ?_
    refine xiconst (v := 1) hk dL_law_791 (by decide) ?_
    refine xiadd hk dL_law_792 ?_
    refine xsld hk hsc dL_law_793 hv1 ?_
    refine xaload_n hk dL_law_794 rfl ?_
    refine xiload hk dL_law_795 rfl ?_
    refine xiconst (v := 2) hk dL_law_797 (by decide) ?_
    refine xiadd hk dL_law_798 ?_
    refine xsld hk hsc dL_law_799 hv2 ?_
    refine xaload_n hk dL_law_800 rfl ?_
    refine xcallSWO 0 sub_FO pa0 px0 hk hNc (w_follows hfl hu (fun E x h => by cases h) (fun v x h => by cases h; exact ⟨_, rfl⟩)) cw_follows kL_161 dL_law_801 rfl rfl (by decide) ⟨by omega, by omega⟩ (Nat.le_of_ble_eq_true rfl) ?_
    rintro _ x9 hw9
    obtain ⟨rfl, rfl⟩ := hw9
    rw [show LFO.length = 49 from rfl]
    refine xistore hk dL_law_804 (by decide) ?_
    refine xaload_n hk dL_law_806 rfl ?_
    refine xaload_n hk dL_law_807 rfl ?_
    refine xiload hk dL_law_808 rfl ?_
    refine xiconst (v := 1) hk dL_law_810 (by decide) ?_
    refine xiadd hk dL_law_811 ?_
    refine xsld hk hsc dL_law_812 hv1 ?_
    refine xaload_n hk dL_law_813 rfl ?_
    refine xiload hk dL_law_814 rfl ?_
    refine xiconst (v := 2) hk dL_law_816 (by decide) ?_
    refine xiadd hk dL_law_817 ?_
    refine xsld hk hsc dL_law_818 hv2 ?_
    refine xcallVO 49 sub_M rfl (pul49 (by decide)) hk (c_X10_follows (hMK hI).1) bX10_follows kL_164 dL_law_819 rfl ⟨_, _, _, _, rfl, rfl⟩ rfl (by decide) ⟨by omega, by omega⟩ (Nat.le_of_ble_eq_true rfl) (det ?_)
    rw [show LM.length = 21 from rfl]
    refine xistore hk dL_law_822 (by decide) ?_
    refine xaload_n hk dL_law_824 rfl ?_
    refine xcallVO 49 sub_M rfl rfl hk c_X10_thrown bX10_thrown kL_103 dL_law_825 rfl ⟨_, _, _, _, rfl, rfl⟩ rfl (by decide) ⟨by omega, by omega⟩ (Nat.le_of_ble_eq_true rfl) (det ?_)
    rw [show LM.length = 21 from rfl, xmix_self, thr_at, hth]
    refine xiload hk dL_law_828 rfl ?_
    refine xicmp_eq hk 835 dL_law_830 (by decide) (fun _ => ?_) (fun hne => absurd rfl hne)
    refine xiload hk dL_law_835 rfl ?_
    refine xif_ne hk 859 dL_law_837 (by decide) (fun hz => absurd rfl hz) (fun _ => ?_)
    refine xaload_n hk dL_law_840 rfl ?_
    refine xiconst (v := 0) hk dL_law_841 (by decide) ?_
    refine xlald hk dL_law_842 rfl (inB_v (by decide)) ?_
    rw [show (0 : Int32).toNatClampNeg = 0 from rfl, out_at, hcv]
    refine xiload hk dL_law_843 rfl ?_
    refine xif_eq hk 852 dL_law_845 (by decide) (fun hz => ?_) (fun hz => ?_)
    · refine xlconst (v := 0) hk dL_law_852 (by decide) ?_
      rw [cvB, if_pos hz]
      refine xlcmp hk dL_law_853 ?_
      refine xif_eq hk 859 dL_law_854 (by decide) (fun _ => ?_) (fun hz => absurd (lg_self _) hz)
      refine xgoto hk 1875 dL_law_859 (by decide) ?_
      refine xsub [(0, .ref b), (1, .ref (a 0)), (2, .ref (a 49)), (3, .ref (a 48)), (4, .int i)] rfl ?_
      exact xwiden (by omega) (by omega) (kk a _ (hcg hI1 (cg_lawF mix48o ⟨by decide, by decide⟩) cg_lawM))
    · refine xlconst (v := 1) hk dL_law_848 (by decide) ?_
      refine xgoto hk 853 dL_law_849 (by decide) ?_
      rw [cvB, if_neg hz]
      refine xlcmp hk dL_law_853 ?_
      refine xif_eq hk 859 dL_law_854 (by decide) (fun _ => ?_) (fun hz => absurd (lg_self _) hz)
      refine xgoto hk 1875 dL_law_859 (by decide) ?_
      refine xsub [(0, .ref b), (1, .ref (a 0)), (2, .ref (a 49)), (3, .ref (a 48)), (4, .int i)] rfl ?_
      exact xwiden (by omega) (by omega) (kk a _ (hcg hI1 (cg_lawF mix48o ⟨by decide, by decide⟩) cg_lawM))
theorem cw_whatFollowsFrom : CBw yL_whatFollowsFrom cL_whatFollowsFrom 4 (some .int) [(0, 9, 12, 24)] 3 := ⟨gw_mem 988 (by decide +kernel) (by decide +kernel), gw_mem 0 (by decide +kernel) (by decide +kernel), gw_mem 987 (by decide +kernel) (by decide +kernel), by decide +kernel, by decide⟩
set_option maxHeartbeats 4000000 in
set_option maxRecDepth 100000 in
theorem law_whatFollowsFrom {k : Kx} {nm : String} (hk : Fok k code 9 RL ret nm 1312 601000 7293000) (hNc : NcK k) (hfl : (kg k).1.stackTraces = false) {b M : Nat} {xs : Nat → Int32} (hsc : ScK k b M xs) {i : Int32} (hv1 : vp_in (i + 1) M) {I : XS → XS → Prop} (hcg : Cong I) (hMK : MKs I) (hA : AgT I code1 cvI (fun E => E = "java/lang/IndexOutOfBoundsException") (f_X8_whatFollowsFrom (xs (i + 1).toNatClampNeg)) (fun z => some (whaU (xs (i + 1).toNatClampNeg) (r0 z)))) {a : Nat → Nat} {x : XS} {cells slots : Nat} (hI : I x (pul 49 x)) (hrm : cells + 30 ≤ 601000 ∧ slots + 3000 ≤ 7293000)
    (kk : ∀ (a : Nat → Nat) (x : XS), I x (pul 49 x) → Wx k (cells + 30) (slots + 3000) LL a x 1875 [(0, .ref b), (1, .ref (a 0)), (2, .ref (a 49)), (3, .ref (a 48)), (4, .int i)] []) : Wx k cells slots LL a x 862 [(0, .ref b), (1, .ref (a 0)), (2, .ref (a 49)), (3, .ref (a 48)), (4, .int i)] [] := by
  rcases hA x (pul 49 x) hI with ⟨E, x1, w, hu, hw, hth, hes, hI1⟩ | ⟨v, x1, w, hu, hw, hth, hcv, hI1⟩
  · obtain rfl := Option.some.inj hw
    refine xaload_n hk dL_law_862 rfl ?_
    refine xaload_n hk dL_law_863 rfl ?_
    refine xiload hk dL_law_864 rfl ?_
    refine xiconst (v := 1) hk dL_law_866 (by decide) ?_
    refine xiadd hk dL_law_867 ?_
    refine xsld hk hsc dL_law_868 hv1 ?_
    refine xaload_n hk dL_law_869 rfl ?_
    refine xcallSWO 0 sub_FO pa0 px0 hk hNc (w_whatFollowsFrom hfl hu (fun E x h => by cases h; exact hes) (fun v x h => by cases h)) cw_whatFollowsFrom kL_165 dL_law_870 rfl rfl (by decide) ⟨by omega, by omega⟩ (Nat.le_of_ble_eq_true rfl) ?_
    rintro _ x9 hw9
    obtain ⟨rfl, rfl⟩ := hw9
    rw [show LFO.length = 49 from rfl]
    refine xistore hk dL_law_873 (by decide) ?_
    refine xaload_n hk dL_law_875 rfl ?_
    refine xaload_n hk dL_law_876 rfl ?_
    refine xiload hk dL_law_877 rfl ?_
    refine xiconst (v := 1) hk dL_law_879 (by decide) ?_
    refine xiadd hk dL_law_880 ?_
    refine xsld hk hsc dL_law_881 hv1 ?_
    refine xcallVO 49 sub_M rfl (pul49 (by decide)) hk (c_X10_whatFollowsFrom (hMK hI).1) bX10_whatFollowsFrom kL_167 dL_law_882 rfl ⟨_, _, _, _, rfl, rfl⟩ rfl (by decide) ⟨by omega, by omega⟩ (Nat.le_of_ble_eq_true rfl) (det ?_)
    rw [show LM.length = 21 from rfl]
    refine xistore hk dL_law_885 (by decide) ?_
    refine xaload_n hk dL_law_887 rfl ?_
    refine xcallVO 49 sub_M rfl rfl hk c_X10_thrown bX10_thrown kL_103 dL_law_888 rfl ⟨_, _, _, _, rfl, rfl⟩ rfl (by decide) ⟨by omega, by omega⟩ (Nat.le_of_ble_eq_true rfl) (det ?_)
    rw [show LM.length = 21 from rfl, xmix_self, thr_at, hth]
    refine xiload hk dL_law_891 rfl ?_
    refine xicmp_eq hk 898 dL_law_893 (by decide) (fun _ => ?_) (fun hne => absurd rfl hne)
    refine xiload hk dL_law_898 rfl ?_
    refine xif_ne hk 915 dL_law_900 (by decide) (fun _ => ?_) (fun hz => absurd hz (code1_ne _))
    refine xgoto hk 1875 dL_law_915 (by decide) ?_
    refine xsub [(0, .ref b), (1, .ref (a 0)), (2, .ref (a 49)), (3, .ref (a 48)), (4, .int i)] rfl ?_
    exact xwiden (by omega) (by omega) (kk a _ (hcg hI1 (cg_lawF mix48 ⟨by decide, by decide⟩) cg_lawM))
  · obtain rfl := Option.some.inj hw
    refine xaload_n hk dL_law_862 rfl ?_
    refine xaload_n hk dL_law_863 rfl ?_
    refine xiload hk dL_law_864 rfl ?_
    refine xiconst (v := 1) hk dL_law_866 (by decide) ?_
    refine xiadd hk dL_law_867 ?_
    refine xsld hk hsc dL_law_868 hv1 ?_
    refine xaload_n hk dL_law_869 rfl ?_
    refine xcallSWO 0 sub_FO pa0 px0 hk hNc (w_whatFollowsFrom hfl hu (fun E x h => by cases h) (fun v x h => by cases h; exact ⟨_, rfl⟩)) cw_whatFollowsFrom kL_165 dL_law_870 rfl rfl (by decide) ⟨by omega, by omega⟩ (Nat.le_of_ble_eq_true rfl) ?_
    rintro _ x9 hw9
    obtain ⟨rfl, rfl⟩ := hw9
    rw [show LFO.length = 49 from rfl]
    refine xistore hk dL_law_873 (by decide) ?_
    refine xaload_n hk dL_law_875 rfl ?_
    refine xaload_n hk dL_law_876 rfl ?_
    refine xiload hk dL_law_877 rfl ?_
    refine xiconst (v := 1) hk dL_law_879 (by decide) ?_
    refine xiadd hk dL_law_880 ?_
    refine xsld hk hsc dL_law_881 hv1 ?_
    refine xcallVO 49 sub_M rfl (pul49 (by decide)) hk (c_X10_whatFollowsFrom (hMK hI).1) bX10_whatFollowsFrom kL_167 dL_law_882 rfl ⟨_, _, _, _, rfl, rfl⟩ rfl (by decide) ⟨by omega, by omega⟩ (Nat.le_of_ble_eq_true rfl) (det ?_)
    rw [show LM.length = 21 from rfl]
    refine xistore hk dL_law_885 (by decide) ?_
    refine xaload_n hk dL_law_887 rfl ?_
    refine xcallVO 49 sub_M rfl rfl hk c_X10_thrown bX10_thrown kL_103 dL_law_888 rfl ⟨_, _, _, _, rfl, rfl⟩ rfl (by decide) ⟨by omega, by omega⟩ (Nat.le_of_ble_eq_true rfl) (det ?_)
    rw [show LM.length = 21 from rfl, xmix_self, thr_at, hth]
    refine xiload hk dL_law_891 rfl ?_
    refine xicmp_eq hk 898 dL_law_893 (by decide) (fun _ => ?_) (fun hne => absurd rfl hne)
    refine xiload hk dL_law_898 rfl ?_
    refine xif_ne hk 915 dL_law_900 (by decide) (fun hz => absurd rfl hz) (fun _ => ?_)
    refine xaload_n hk dL_law_903 rfl ?_
    refine xiconst (v := 0) hk dL_law_904 (by decide) ?_
    refine xlald hk dL_law_905 rfl (inB_v (by decide)) ?_
    rw [show (0 : Int32).toNatClampNeg = 0 from rfl, out_at, hcv]
    refine xiload hk dL_law_906 rfl ?_
    refine xi2l hk dL_law_908 ?_
    refine xlcmp hk dL_law_909 ?_
    refine xif_eq hk 915 dL_law_910 (by decide) (fun _ => ?_) (fun hz => absurd (lg_self _) hz)
    refine xgoto hk 1875 dL_law_915 (by decide) ?_
    refine xsub [(0, .ref b), (1, .ref (a 0)), (2, .ref (a 49)), (3, .ref (a 48)), (4, .int i)] rfl ?_
    exact xwiden (by omega) (by omega) (kk a _ (hcg hI1 (cg_lawF mix48o ⟨by decide, by decide⟩) cg_lawM))
theorem cw_fewestStatementsBetween : CBw yL_fewestStatementsBetween cL_fewestStatementsBetween 5 (some .int) [(0, 10, 13, 24), (0, 10, 17, 13)] 4 := ⟨gw_mem 995 (by decide +kernel) (by decide +kernel), gw_mem 0 (by decide +kernel) (by decide +kernel), gw_mem 994 (by decide +kernel) (by decide +kernel), by decide +kernel, by decide⟩
set_option maxHeartbeats 4000000 in
set_option maxRecDepth 100000 in
theorem law_fewestStatementsBetween {k : Kx} {nm : String} (hk : Fok k code 9 RL ret nm 1312 601000 7293000) (hNc : NcK k) (hfl : (kg k).1.stackTraces = false) {b M : Nat} {xs : Nat → Int32} (hsc : ScK k b M xs) {i : Int32} (hv1 : vp_in (i + 1) M) (hv2 : vp_in (i + 2) M) {I : XS → XS → Prop} (hcg : Cong I) (hMK : MKs I) (hA : AgT I code2 cvI (fun E => E = "java/lang/IndexOutOfBoundsException" ∨ E = "java/lang/IllegalStateException") (f_X8_fewestStatementsBetween (xs (i + 1).toNatClampNeg) (xs (i + 2).toNatClampNeg)) (f_X10_fewestStatementsBetween (xs (i + 1).toNatClampNeg) (xs (i + 2).toNatClampNeg))) {a : Nat → Nat} {x : XS} {cells slots : Nat} (hI : I x (pul 49 x)) (hrm : cells + 30 ≤ 601000 ∧ slots + 3000 ≤ 7293000)
    (kk : ∀ (a : Nat → Nat) (x : XS), I x (pul 49 x) → Wx k (cells + 30) (slots + 3000) LL a x 1875 [(0, .ref b), (1, .ref (a 0)), (2, .ref (a 49)), (3, .ref (a 48)), (4, .int i)] []) : Wx k cells slots LL a x 918 [(0, .ref b), (1, .ref (a 0)), (2, .ref (a 49)), (3, .ref (a 48)), (4, .int i)] [] := by
  rcases hA x (pul 49 x) hI with ⟨E, x1, w, hu, hw, hth, hes, hI1⟩ | ⟨v, x1, w, hu, hw, hth, hcv, hI1⟩
  · refine xaload_n hk dL_law_918 rfl ?_
    refine xaload_n hk dL_law_919 rfl ?_
    refine xiload hk dL_law_920 rfl ?_
    refine xiconst (v := 1) hk dL_law_922 (by decide) ?_
    refine xiadd hk dL_law_923 ?_
    refine xsld hk hsc dL_law_924 hv1 ?_
    refine xaload_n hk dL_law_925 rfl ?_
    refine xiload hk dL_law_926 rfl ?_
    refine xiconst (v := 2) hk dL_law_928 (by decide) ?_
    refine xiadd hk dL_law_929 ?_
    refine xsld hk hsc dL_law_930 hv2 ?_
    refine xaload_n hk dL_law_931 rfl ?_
    refine xcallSWO 0 sub_FO pa0 px0 hk hNc (w_fewestStatementsBetween hfl hu (fun E x h => by cases h; exact hes) (fun v x h => by cases h)) cw_fewestStatementsBetween kL_168 dL_law_932 rfl rfl (by decide) ⟨by omega, by omega⟩ (Nat.le_of_ble_eq_true rfl) ?_
    rintro _ x9 hw9
    obtain ⟨rfl, rfl⟩ := hw9
    rw [show LFO.length = 49 from rfl]
    refine xistore hk dL_law_935 (by decide) ?_
    refine xaload_n hk dL_law_937 rfl ?_
    refine xaload_n hk dL_law_938 rfl ?_
    refine xiload hk dL_law_939 rfl ?_
    refine xiconst (v := 1) hk dL_law_941 (by decide) ?_
    refine xiadd hk dL_law_942 ?_
    refine xsld hk hsc dL_law_943 hv1 ?_
    refine xaload_n hk dL_law_944 rfl ?_
    refine xiload hk dL_law_945 rfl ?_
    refine xiconst (v := 2) hk dL_law_947 (by decide) ?_
    refine xiadd hk dL_law_948 ?_
    refine xsld hk hsc dL_law_949 hv2 ?_
    refine xcallVO 49 sub_M rfl (pul49 (by decide)) hk (c_X10_fewestStatementsBetween hw) bX10_fewestStatementsBetween kL_170 dL_law_950 rfl ⟨_, _, _, _, rfl, rfl⟩ rfl (by decide) ⟨by omega, by omega⟩ (Nat.le_of_ble_eq_true rfl) (det ?_)
    rw [show LM.length = 21 from rfl]
    refine xistore hk dL_law_953 (by decide) ?_
    refine xaload_n hk dL_law_955 rfl ?_
    refine xcallVO 49 sub_M rfl rfl hk c_X10_thrown bX10_thrown kL_103 dL_law_956 rfl ⟨_, _, _, _, rfl, rfl⟩ rfl (by decide) ⟨by omega, by omega⟩ (Nat.le_of_ble_eq_true rfl) (det ?_)
    rw [show LM.length = 21 from rfl, xmix_self, thr_at, hth]
    refine xiload hk dL_law_959 rfl ?_
    refine xicmp_eq hk 966 dL_law_961 (by decide) (fun _ => ?_) (fun hne => absurd rfl hne)
    refine xiload hk dL_law_966 rfl ?_
    refine xif_ne hk 983 dL_law_968 (by decide) (fun _ => ?_) (fun hz => absurd hz (code2_ne _))
    refine xgoto hk 1875 dL_law_983 (by decide) ?_
    refine xsub [(0, .ref b), (1, .ref (a 0)), (2, .ref (a 49)), (3, .ref (a 48)), (4, .int i)] rfl ?_
    exact xwiden (by omega) (by omega) (kk a _ (hcg hI1 (cg_lawF mix48 ⟨by decide, by decide⟩) cg_lawM))
  · refine xaload_n hk dL_law_918 rfl ?_
    refine xaload_n hk dL_law_919 rfl ?_
    refine xiload hk dL_law_920 rfl ?_
    refine xiconst (v := 1) hk dL_law_922 (by decide) ?_
    refine xiadd hk dL_law_923 ?_
    refine xsld hk hsc dL_law_924 hv1 ?_
    refine xaload_n hk dL_law_925 rfl ?_
    refine xiload hk dL_law_926 rfl ?_
    refine xiconst (v := 2) hk dL_law_928 (by decide) ?_
    refine xiadd hk dL_law_929 ?_
    refine xsld hk hsc dL_law_930 hv2 ?_
    refine xaload_n hk dL_law_931 rfl ?_
    refine xcallSWO 0 sub_FO pa0 px0 hk hNc (w_fewestStatementsBetween hfl hu (fun E x h => by cases h) (fun v x h => by cases h; exact ⟨_, rfl⟩)) cw_fewestStatementsBetween kL_168 dL_law_932 rfl rfl (by decide) ⟨by omega, by omega⟩ (Nat.le_of_ble_eq_true rfl) ?_
    rintro _ x9 hw9
    obtain ⟨rfl, rfl⟩ := hw9
    rw [show LFO.length = 49 from rfl]
    refine xistore hk dL_law_935 (by decide) ?_
    refine xaload_n hk dL_law_937 rfl ?_
    refine xaload_n hk dL_law_938 rfl ?_
    refine xiload hk dL_law_939 rfl ?_
    refine xiconst (v := 1) hk dL_law_941 (by decide) ?_
    refine xiadd hk dL_law_942 ?_
    refine xsld hk hsc dL_law_943 hv1 ?_
    refine xaload_n hk dL_law_944 rfl ?_
    refine xiload hk dL_law_945 rfl ?_
    refine xiconst (v := 2) hk dL_law_947 (by decide) ?_
    refine xiadd hk dL_law_948 ?_
    refine xsld hk hsc dL_law_949 hv2 ?_
    refine xcallVO 49 sub_M rfl (pul49 (by decide)) hk (c_X10_fewestStatementsBetween hw) bX10_fewestStatementsBetween kL_170 dL_law_950 rfl ⟨_, _, _, _, rfl, rfl⟩ rfl (by decide) ⟨by omega, by omega⟩ (Nat.le_of_ble_eq_true rfl) (det ?_)
    rw [show LM.length = 21 from rfl]
    refine xistore hk dL_law_953 (by decide) ?_
    refine xaload_n hk dL_law_955 rfl ?_
    refine xcallVO 49 sub_M rfl rfl hk c_X10_thrown bX10_thrown kL_103 dL_law_956 rfl ⟨_, _, _, _, rfl, rfl⟩ rfl (by decide) ⟨by omega, by omega⟩ (Nat.le_of_ble_eq_true rfl) (det ?_)
    rw [show LM.length = 21 from rfl, xmix_self, thr_at, hth]
    refine xiload hk dL_law_959 rfl ?_
    refine xicmp_eq hk 966 dL_law_961 (by decide) (fun _ => ?_) (fun hne => absurd rfl hne)
    refine xiload hk dL_law_966 rfl ?_
    refine xif_ne hk 983 dL_law_968 (by decide) (fun hz => absurd rfl hz) (fun _ => ?_)
    refine xaload_n hk dL_law_971 rfl ?_
    refine xiconst (v := 0) hk dL_law_972 (by decide) ?_
    refine xlald hk dL_law_973 rfl (inB_v (by decide)) ?_
    rw [show (0 : Int32).toNatClampNeg = 0 from rfl, out_at, hcv]
    refine xiload hk dL_law_974 rfl ?_
    refine xi2l hk dL_law_976 ?_
    refine xlcmp hk dL_law_977 ?_
    refine xif_eq hk 983 dL_law_978 (by decide) (fun _ => ?_) (fun hz => absurd (lg_self _) hz)
    refine xgoto hk 1875 dL_law_983 (by decide) ?_
    refine xsub [(0, .ref b), (1, .ref (a 0)), (2, .ref (a 49)), (3, .ref (a 48)), (4, .int i)] rfl ?_
    exact xwiden (by omega) (by omega) (kk a _ (hcg hI1 (cg_lawF mix48o ⟨by decide, by decide⟩) cg_lawM))
set_option maxHeartbeats 4000000 in
set_option maxRecDepth 100000 in
theorem law_parts {k : Kx} {nm : String} (hk : Fok k code 9 RL ret nm 1312 601000 7293000) (hNc : NcK k) (hfl : (kg k).1.stackTraces = false) {b M : Nat} {xs : Nat → Int32} (hsc : ScK k b M xs) {i : Int32}  {I : XS → XS → Prop} (hcg : Cong I) (hMK : MKs I) (hA : AgN I f_X8_parts (fun z => some ((mfol z).1 0 23, r0 (mfol z)))) {a : Nat → Nat} {x : XS} {cells slots : Nat} (hI : I x (pul 49 x)) (hrm : cells + 30 ≤ 601000 ∧ slots + 3000 ≤ 7293000)
    (kk : ∀ (a : Nat → Nat) (x : XS), I x (pul 49 x) → Wx k (cells + 30) (slots + 3000) LL a x 1875 [(0, .ref b), (1, .ref (a 0)), (2, .ref (a 49)), (3, .ref (a 48)), (4, .int i)] []) : Wx k cells slots LL a x 986 [(0, .ref b), (1, .ref (a 0)), (2, .ref (a 49)), (3, .ref (a 48)), (4, .int i)] [] := by
  obtain ⟨v, x1, z1, hu, hw, hI1⟩ := hA x (pul 49 x) hI
  obtain ⟨rfl, rfl⟩ := Prod.mk.inj (Option.some.inj hw)
  refine xaload_n hk dL_law_986 rfl ?_
  refine xcallVO 0 sub_F pa0 px0 hk (c_X8_parts hu) bX8_parts kL_171 dL_law_987 rfl ⟨_, _, _, _, rfl, rfl⟩ rfl (by decide) ⟨by omega, by omega⟩ (Nat.le_of_ble_eq_true rfl) (det ?_)
  rw [show LF.length = 48 from rfl]
  refine xaload_n hk dL_law_990 rfl ?_
  refine xcallVO 49 sub_M rfl (pul49 (by decide)) hk (c_X10_parts (hMK hI).1) bX10_parts kL_174 dL_law_991 rfl ⟨_, _, _, _, rfl, rfl⟩ rfl (by decide) ⟨by omega, by omega⟩ (Nat.le_of_ble_eq_true rfl) (det ?_)
  rw [show LM.length = 21 from rfl]
  refine xicmp_eq hk 1875 dL_law_994 (by decide) (fun _ => ?_) (fun hne => absurd rfl hne)
  refine xsub [(0, .ref b), (1, .ref (a 0)), (2, .ref (a 49)), (3, .ref (a 48)), (4, .int i)] rfl ?_
  exact xwiden (by omega) (by omega) (kk a _ (hcg hI1 (cg_lawF (fun _ _ _ => ⟨rfl, rfl⟩) ⟨by decide, by decide⟩) cg_lawM))
theorem cw_partOf : CBw yL_partOf cL_partOf 4 (some .int) [(0, 9, 12, 24)] 3 := ⟨gw_mem 1011 (by decide +kernel) (by decide +kernel), gw_mem 0 (by decide +kernel) (by decide +kernel), gw_mem 1010 (by decide +kernel) (by decide +kernel), by decide +kernel, by decide⟩
set_option maxHeartbeats 4000000 in
set_option maxRecDepth 100000 in
theorem law_partOf {k : Kx} {nm : String} (hk : Fok k code 9 RL ret nm 1312 601000 7293000) (hNc : NcK k) (hfl : (kg k).1.stackTraces = false) {b M : Nat} {xs : Nat → Int32} (hsc : ScK k b M xs) {i : Int32} (hv1 : vp_in (i + 1) M) {I : XS → XS → Prop} (hcg : Cong I) (hMK : MKs I) (hA : AgT I code1 cvI (fun E => E = "java/lang/IndexOutOfBoundsException") (f_X8_partOf (xs (i + 1).toNatClampNeg)) (fun z => some (paoU (xs (i + 1).toNatClampNeg) (r0 z)))) {a : Nat → Nat} {x : XS} {cells slots : Nat} (hI : I x (pul 49 x)) (hrm : cells + 30 ≤ 601000 ∧ slots + 3000 ≤ 7293000)
    (kk : ∀ (a : Nat → Nat) (x : XS), I x (pul 49 x) → Wx k (cells + 30) (slots + 3000) LL a x 1875 [(0, .ref b), (1, .ref (a 0)), (2, .ref (a 49)), (3, .ref (a 48)), (4, .int i)] []) : Wx k cells slots LL a x 999 [(0, .ref b), (1, .ref (a 0)), (2, .ref (a 49)), (3, .ref (a 48)), (4, .int i)] [] := by
  rcases hA x (pul 49 x) hI with ⟨E, x1, w, hu, hw, hth, hes, hI1⟩ | ⟨v, x1, w, hu, hw, hth, hcv, hI1⟩
  · obtain rfl := Option.some.inj hw
    refine xaload_n hk dL_law_999 rfl ?_
    refine xaload_n hk dL_law_1000 rfl ?_
    refine xiload hk dL_law_1001 rfl ?_
    refine xiconst (v := 1) hk dL_law_1003 (by decide) ?_
    refine xiadd hk dL_law_1004 ?_
    refine xsld hk hsc dL_law_1005 hv1 ?_
    refine xaload_n hk dL_law_1006 rfl ?_
    refine xcallSWO 0 sub_FO pa0 px0 hk hNc (w_partOf hfl hu (fun E x h => by cases h; exact hes) (fun v x h => by cases h)) cw_partOf kL_175 dL_law_1007 rfl rfl (by decide) ⟨by omega, by omega⟩ (Nat.le_of_ble_eq_true rfl) ?_
    rintro _ x9 hw9
    obtain ⟨rfl, rfl⟩ := hw9
    rw [show LFO.length = 49 from rfl]
    refine xistore hk dL_law_1010 (by decide) ?_
    refine xaload_n hk dL_law_1012 rfl ?_
    refine xaload_n hk dL_law_1013 rfl ?_
    refine xiload hk dL_law_1014 rfl ?_
    refine xiconst (v := 1) hk dL_law_1016 (by decide) ?_
    refine xiadd hk dL_law_1017 ?_
    refine xsld hk hsc dL_law_1018 hv1 ?_
    refine xcallVO 49 sub_M rfl (pul49 (by decide)) hk (c_X10_partOf (hMK hI).1 (hMK hI).2) bX10_partOf kL_177 dL_law_1019 rfl ⟨_, _, _, _, rfl, rfl⟩ rfl (by decide) ⟨by omega, by omega⟩ (Nat.le_of_ble_eq_true rfl) (det ?_)
    rw [show LM.length = 21 from rfl]
    refine xistore hk dL_law_1022 (by decide) ?_
    refine xaload_n hk dL_law_1024 rfl ?_
    refine xcallVO 49 sub_M rfl rfl hk c_X10_thrown bX10_thrown kL_103 dL_law_1025 rfl ⟨_, _, _, _, rfl, rfl⟩ rfl (by decide) ⟨by omega, by omega⟩ (Nat.le_of_ble_eq_true rfl) (det ?_)
    rw [show LM.length = 21 from rfl, xmix_self, thr_at, hth]
    refine xiload hk dL_law_1028 rfl ?_
    refine xicmp_eq hk 1035 dL_law_1030 (by decide) (fun _ => ?_) (fun hne => absurd rfl hne)
    refine xiload hk dL_law_1035 rfl ?_
    refine xif_ne hk 1052 dL_law_1037 (by decide) (fun _ => ?_) (fun hz => absurd hz (code1_ne _))
    refine xgoto hk 1875 dL_law_1052 (by decide) ?_
    refine xsub [(0, .ref b), (1, .ref (a 0)), (2, .ref (a 49)), (3, .ref (a 48)), (4, .int i)] rfl ?_
    exact xwiden (by omega) (by omega) (kk a _ (hcg hI1 (cg_lawF mix48 ⟨by decide, by decide⟩) cg_lawM))
  · obtain rfl := Option.some.inj hw
    refine xaload_n hk dL_law_999 rfl ?_
    refine xaload_n hk dL_law_1000 rfl ?_
    refine xiload hk dL_law_1001 rfl ?_
    refine xiconst (v := 1) hk dL_law_1003 (by decide) ?_
    refine xiadd hk dL_law_1004 ?_
    refine xsld hk hsc dL_law_1005 hv1 ?_
    refine xaload_n hk dL_law_1006 rfl ?_
    refine xcallSWO 0 sub_FO pa0 px0 hk hNc (w_partOf hfl hu (fun E x h => by cases h) (fun v x h => by cases h; exact ⟨_, rfl⟩)) cw_partOf kL_175 dL_law_1007 rfl rfl (by decide) ⟨by omega, by omega⟩ (Nat.le_of_ble_eq_true rfl) ?_
    rintro _ x9 hw9
    obtain ⟨rfl, rfl⟩ := hw9
    rw [show LFO.length = 49 from rfl]
    refine xistore hk dL_law_1010 (by decide) ?_
    refine xaload_n hk dL_law_1012 rfl ?_
    refine xaload_n hk dL_law_1013 rfl ?_
    refine xiload hk dL_law_1014 rfl ?_
    refine xiconst (v := 1) hk dL_law_1016 (by decide) ?_
    refine xiadd hk dL_law_1017 ?_
    refine xsld hk hsc dL_law_1018 hv1 ?_
    refine xcallVO 49 sub_M rfl (pul49 (by decide)) hk (c_X10_partOf (hMK hI).1 (hMK hI).2) bX10_partOf kL_177 dL_law_1019 rfl ⟨_, _, _, _, rfl, rfl⟩ rfl (by decide) ⟨by omega, by omega⟩ (Nat.le_of_ble_eq_true rfl) (det ?_)
    rw [show LM.length = 21 from rfl]
    refine xistore hk dL_law_1022 (by decide) ?_
    refine xaload_n hk dL_law_1024 rfl ?_
    refine xcallVO 49 sub_M rfl rfl hk c_X10_thrown bX10_thrown kL_103 dL_law_1025 rfl ⟨_, _, _, _, rfl, rfl⟩ rfl (by decide) ⟨by omega, by omega⟩ (Nat.le_of_ble_eq_true rfl) (det ?_)
    rw [show LM.length = 21 from rfl, xmix_self, thr_at, hth]
    refine xiload hk dL_law_1028 rfl ?_
    refine xicmp_eq hk 1035 dL_law_1030 (by decide) (fun _ => ?_) (fun hne => absurd rfl hne)
    refine xiload hk dL_law_1035 rfl ?_
    refine xif_ne hk 1052 dL_law_1037 (by decide) (fun hz => absurd rfl hz) (fun _ => ?_)
    refine xaload_n hk dL_law_1040 rfl ?_
    refine xiconst (v := 0) hk dL_law_1041 (by decide) ?_
    refine xlald hk dL_law_1042 rfl (inB_v (by decide)) ?_
    rw [show (0 : Int32).toNatClampNeg = 0 from rfl, out_at, hcv]
    refine xiload hk dL_law_1043 rfl ?_
    refine xi2l hk dL_law_1045 ?_
    refine xlcmp hk dL_law_1046 ?_
    refine xif_eq hk 1052 dL_law_1047 (by decide) (fun _ => ?_) (fun hz => absurd (lg_self _) hz)
    refine xgoto hk 1875 dL_law_1052 (by decide) ?_
    refine xsub [(0, .ref b), (1, .ref (a 0)), (2, .ref (a 49)), (3, .ref (a 48)), (4, .int i)] rfl ?_
    exact xwiden (by omega) (by omega) (kk a _ (hcg hI1 (cg_lawF mix48o ⟨by decide, by decide⟩) cg_lawM))
theorem cw_partSize : CBw yL_partSize cL_partSize 4 (some .int) [(0, 9, 12, 24)] 3 := ⟨gw_mem 1018 (by decide +kernel) (by decide +kernel), gw_mem 0 (by decide +kernel) (by decide +kernel), gw_mem 1017 (by decide +kernel) (by decide +kernel), by decide +kernel, by decide⟩
set_option maxHeartbeats 4000000 in
set_option maxRecDepth 100000 in
theorem law_partSize {k : Kx} {nm : String} (hk : Fok k code 9 RL ret nm 1312 601000 7293000) (hNc : NcK k) (hfl : (kg k).1.stackTraces = false) {b M : Nat} {xs : Nat → Int32} (hsc : ScK k b M xs) {i : Int32} (hv1 : vp_in (i + 1) M) {I : XS → XS → Prop} (hcg : Cong I) (hMK : MKs I) (hA : AgT I code1 cvI (fun E => E = "java/lang/IndexOutOfBoundsException") (f_X8_partSize (xs (i + 1).toNatClampNeg)) (fun z => some (pasU (xs (i + 1).toNatClampNeg) (r0 z)))) {a : Nat → Nat} {x : XS} {cells slots : Nat} (hI : I x (pul 49 x)) (hrm : cells + 30 ≤ 601000 ∧ slots + 3000 ≤ 7293000)
    (kk : ∀ (a : Nat → Nat) (x : XS), I x (pul 49 x) → Wx k (cells + 30) (slots + 3000) LL a x 1875 [(0, .ref b), (1, .ref (a 0)), (2, .ref (a 49)), (3, .ref (a 48)), (4, .int i)] []) : Wx k cells slots LL a x 1055 [(0, .ref b), (1, .ref (a 0)), (2, .ref (a 49)), (3, .ref (a 48)), (4, .int i)] [] := by
  rcases hA x (pul 49 x) hI with ⟨E, x1, w, hu, hw, hth, hes, hI1⟩ | ⟨v, x1, w, hu, hw, hth, hcv, hI1⟩
  · obtain rfl := Option.some.inj hw
    refine xaload_n hk dL_law_1055 rfl ?_
    refine xaload_n hk dL_law_1056 rfl ?_
    refine xiload hk dL_law_1057 rfl ?_
    refine xiconst (v := 1) hk dL_law_1059 (by decide) ?_
    refine xiadd hk dL_law_1060 ?_
    refine xsld hk hsc dL_law_1061 hv1 ?_
    refine xaload_n hk dL_law_1062 rfl ?_
    refine xcallSWO 0 sub_FO pa0 px0 hk hNc (w_partSize hfl hu (fun E x h => by cases h; exact hes) (fun v x h => by cases h)) cw_partSize kL_178 dL_law_1063 rfl rfl (by decide) ⟨by omega, by omega⟩ (Nat.le_of_ble_eq_true rfl) ?_
    rintro _ x9 hw9
    obtain ⟨rfl, rfl⟩ := hw9
    rw [show LFO.length = 49 from rfl]
    refine xistore hk dL_law_1066 (by decide) ?_
    refine xaload_n hk dL_law_1068 rfl ?_
    refine xaload_n hk dL_law_1069 rfl ?_
    refine xiload hk dL_law_1070 rfl ?_
    refine xiconst (v := 1) hk dL_law_1072 (by decide) ?_
    refine xiadd hk dL_law_1073 ?_
    refine xsld hk hsc dL_law_1074 hv1 ?_
    refine xcallVO 49 sub_M rfl (pul49 (by decide)) hk (c_X10_partSize (hMK hI).1) bX10_partSize kL_180 dL_law_1075 rfl ⟨_, _, _, _, rfl, rfl⟩ rfl (by decide) ⟨by omega, by omega⟩ (Nat.le_of_ble_eq_true rfl) (det ?_)
    rw [show LM.length = 21 from rfl]
    refine xistore hk dL_law_1078 (by decide) ?_
    refine xaload_n hk dL_law_1080 rfl ?_
    refine xcallVO 49 sub_M rfl rfl hk c_X10_thrown bX10_thrown kL_103 dL_law_1081 rfl ⟨_, _, _, _, rfl, rfl⟩ rfl (by decide) ⟨by omega, by omega⟩ (Nat.le_of_ble_eq_true rfl) (det ?_)
    rw [show LM.length = 21 from rfl, xmix_self, thr_at, hth]
    refine xiload hk dL_law_1084 rfl ?_
    refine xicmp_eq hk 1091 dL_law_1086 (by decide) (fun _ => ?_) (fun hne => absurd rfl hne)
    refine xiload hk dL_law_1091 rfl ?_
    refine xif_ne hk 1108 dL_law_1093 (by decide) (fun _ => ?_) (fun hz => absurd hz (code1_ne _))
    refine xgoto hk 1875 dL_law_1108 (by decide) ?_
    refine xsub [(0, .ref b), (1, .ref (a 0)), (2, .ref (a 49)), (3, .ref (a 48)), (4, .int i)] rfl ?_
    exact xwiden (by omega) (by omega) (kk a _ (hcg hI1 (cg_lawF mix48 ⟨by decide, by decide⟩) cg_lawM))
  · obtain rfl := Option.some.inj hw
    refine xaload_n hk dL_law_1055 rfl ?_
    refine xaload_n hk dL_law_1056 rfl ?_
    refine xiload hk dL_law_1057 rfl ?_
    refine xiconst (v := 1) hk dL_law_1059 (by decide) ?_
    refine xiadd hk dL_law_1060 ?_
    refine xsld hk hsc dL_law_1061 hv1 ?_
    refine xaload_n hk dL_law_1062 rfl ?_
    refine xcallSWO 0 sub_FO pa0 px0 hk hNc (w_partSize hfl hu (fun E x h => by cases h) (fun v x h => by cases h; exact ⟨_, rfl⟩)) cw_partSize kL_178 dL_law_1063 rfl rfl (by decide) ⟨by omega, by omega⟩ (Nat.le_of_ble_eq_true rfl) ?_
    rintro _ x9 hw9
    obtain ⟨rfl, rfl⟩ := hw9
    rw [show LFO.length = 49 from rfl]
    refine xistore hk dL_law_1066 (by decide) ?_
    refine xaload_n hk dL_law_1068 rfl ?_
    refine xaload_n hk dL_law_1069 rfl ?_
    refine xiload hk dL_law_1070 rfl ?_
    refine xiconst (v := 1) hk dL_law_1072 (by decide) ?_
    refine xiadd hk dL_law_1073 ?_
    refine xsld hk hsc dL_law_1074 hv1 ?_
    refine xcallVO 49 sub_M rfl (pul49 (by decide)) hk (c_X10_partSize (hMK hI).1) bX10_partSize kL_180 dL_law_1075 rfl ⟨_, _, _, _, rfl, rfl⟩ rfl (by decide) ⟨by omega, by omega⟩ (Nat.le_of_ble_eq_true rfl) (det ?_)
    rw [show LM.length = 21 from rfl]
    refine xistore hk dL_law_1078 (by decide) ?_
    refine xaload_n hk dL_law_1080 rfl ?_
    refine xcallVO 49 sub_M rfl rfl hk c_X10_thrown bX10_thrown kL_103 dL_law_1081 rfl ⟨_, _, _, _, rfl, rfl⟩ rfl (by decide) ⟨by omega, by omega⟩ (Nat.le_of_ble_eq_true rfl) (det ?_)
    rw [show LM.length = 21 from rfl, xmix_self, thr_at, hth]
    refine xiload hk dL_law_1084 rfl ?_
    refine xicmp_eq hk 1091 dL_law_1086 (by decide) (fun _ => ?_) (fun hne => absurd rfl hne)
    refine xiload hk dL_law_1091 rfl ?_
    refine xif_ne hk 1108 dL_law_1093 (by decide) (fun hz => absurd rfl hz) (fun _ => ?_)
    refine xaload_n hk dL_law_1096 rfl ?_
    refine xiconst (v := 0) hk dL_law_1097 (by decide) ?_
    refine xlald hk dL_law_1098 rfl (inB_v (by decide)) ?_
    rw [show (0 : Int32).toNatClampNeg = 0 from rfl, out_at, hcv]
    refine xiload hk dL_law_1099 rfl ?_
    refine xi2l hk dL_law_1101 ?_
    refine xlcmp hk dL_law_1102 ?_
    refine xif_eq hk 1108 dL_law_1103 (by decide) (fun _ => ?_) (fun hz => absurd (lg_self _) hz)
    refine xgoto hk 1875 dL_law_1108 (by decide) ?_
    refine xsub [(0, .ref b), (1, .ref (a 0)), (2, .ref (a 49)), (3, .ref (a 48)), (4, .int i)] rfl ?_
    exact xwiden (by omega) (by omega) (kk a _ (hcg hI1 (cg_lawF mix48o ⟨by decide, by decide⟩) cg_lawM))
set_option maxHeartbeats 4000000 in
set_option maxRecDepth 100000 in
theorem law_isPeacePossible {k : Kx} {nm : String} (hk : Fok k code 9 RL ret nm 1312 601000 7293000) (hNc : NcK k) (hfl : (kg k).1.stackTraces = false) {b M : Nat} {xs : Nat → Int32} (hsc : ScK k b M xs) {i : Int32}  {I : XS → XS → Prop} (hcg : Cong I) (hMK : MKs I) (hA : AgN I f_X8_isPeacePossible f_X10_isPeacePossible) {a : Nat → Nat} {x : XS} {cells slots : Nat} (hI : I x (pul 49 x)) (hrm : cells + 30 ≤ 601000 ∧ slots + 3000 ≤ 7293000)
    (kk : ∀ (a : Nat → Nat) (x : XS), I x (pul 49 x) → Wx k (cells + 30) (slots + 3000) LL a x 1875 [(0, .ref b), (1, .ref (a 0)), (2, .ref (a 49)), (3, .ref (a 48)), (4, .int i)] []) : Wx k cells slots LL a x 1111 [(0, .ref b), (1, .ref (a 0)), (2, .ref (a 49)), (3, .ref (a 48)), (4, .int i)] [] := by
  obtain ⟨v, x1, z1, hu, hw, hI1⟩ := hA x (pul 49 x) hI
  refine xaload_n hk dL_law_1111 rfl ?_
  refine xcallVO 0 sub_F pa0 px0 hk (c_X8_isPeacePossible hu) bX8_isPeacePossible kL_181 dL_law_1112 rfl ⟨_, _, _, _, rfl, rfl⟩ rfl (by decide) ⟨by omega, by omega⟩ (Nat.le_of_ble_eq_true rfl) (det ?_)
  rw [show LF.length = 48 from rfl]
  refine xaload_n hk dL_law_1115 rfl ?_
  refine xcallVO 49 sub_M rfl (pul49 (by decide)) hk (c_X10_isPeacePossible hw) bX10_isPeacePossible kL_185 dL_law_1116 rfl ⟨_, _, _, _, rfl, rfl⟩ rfl (by decide) ⟨by omega, by omega⟩ (Nat.le_of_ble_eq_true rfl) (det ?_)
  rw [show LM.length = 21 from rfl]
  refine xicmp_eq hk 1875 dL_law_1119 (by decide) (fun _ => ?_) (fun hne => absurd rfl hne)
  refine xsub [(0, .ref b), (1, .ref (a 0)), (2, .ref (a 49)), (3, .ref (a 48)), (4, .int i)] rfl ?_
  exact xwiden (by omega) (by omega) (kk a _ (hcg hI1 (cg_lawF (fun _ _ _ => ⟨rfl, rfl⟩) ⟨by decide, by decide⟩) cg_lawM))
set_option maxHeartbeats 4000000 in
set_option maxRecDepth 100000 in
theorem law_peaces {k : Kx} {nm : String} (hk : Fok k code 9 RL ret nm 1312 601000 7293000) (hNc : NcK k) (hfl : (kg k).1.stackTraces = false) {b M : Nat} {xs : Nat → Int32} (hsc : ScK k b M xs) {i : Int32}  {I : XS → XS → Prop} (hcg : Cong I) (hMK : MKs I) (hA : AgN I f_X8_peaces (fun z => some ((mlook (z.1 0 15) z).1 0 18, r0 (mlook (z.1 0 15) z)))) {a : Nat → Nat} {x : XS} {cells slots : Nat} (hI : I x (pul 49 x)) (hrm : cells + 30 ≤ 601000 ∧ slots + 3000 ≤ 7293000)
    (kk : ∀ (a : Nat → Nat) (x : XS), I x (pul 49 x) → Wx k (cells + 30) (slots + 3000) LL a x 1875 [(0, .ref b), (1, .ref (a 0)), (2, .ref (a 49)), (3, .ref (a 48)), (4, .int i)] []) : Wx k cells slots LL a x 1124 [(0, .ref b), (1, .ref (a 0)), (2, .ref (a 49)), (3, .ref (a 48)), (4, .int i)] [] := by
  obtain ⟨v, x1, z1, hu, hw, hI1⟩ := hA x (pul 49 x) hI
  obtain ⟨rfl, rfl⟩ := Prod.mk.inj (Option.some.inj hw)
  refine xaload_n hk dL_law_1124 rfl ?_
  refine xcallVO 0 sub_F pa0 px0 hk (c_X8_peaces hu) bX8_peaces kL_186 dL_law_1125 rfl ⟨_, _, _, _, rfl, rfl⟩ rfl (by decide) ⟨by omega, by omega⟩ (Nat.le_of_ble_eq_true rfl) (det ?_)
  rw [show LF.length = 48 from rfl]
  refine xaload_n hk dL_law_1128 rfl ?_
  refine xcallVO 49 sub_M rfl (pul49 (by decide)) hk (c_X10_peaces_ (hMK hI).1) bX10_peaces_ kL_189 dL_law_1129 rfl ⟨_, _, _, _, rfl, rfl⟩ rfl (by decide) ⟨by omega, by omega⟩ (Nat.le_of_ble_eq_true rfl) (det ?_)
  rw [show LM.length = 21 from rfl]
  refine xicmp_eq hk 1875 dL_law_1132 (by decide) (fun _ => ?_) (fun hne => absurd rfl hne)
  refine xsub [(0, .ref b), (1, .ref (a 0)), (2, .ref (a 49)), (3, .ref (a 48)), (4, .int i)] rfl ?_
  exact xwiden (by omega) (by omega) (kk a _ (hcg hI1 (cg_lawF (fun _ _ _ => ⟨rfl, rfl⟩) ⟨by decide, by decide⟩) cg_lawM))
theorem cw_peacesWith : CBw yL_peacesWith cL_peacesWith 4 (some .int) [(0, 9, 12, 24)] 3 := ⟨gw_mem 1025 (by decide +kernel) (by decide +kernel), gw_mem 0 (by decide +kernel) (by decide +kernel), gw_mem 1024 (by decide +kernel) (by decide +kernel), by decide +kernel, by decide⟩
set_option maxHeartbeats 4000000 in
set_option maxRecDepth 100000 in
theorem law_peacesWith {k : Kx} {nm : String} (hk : Fok k code 9 RL ret nm 1312 601000 7293000) (hNc : NcK k) (hfl : (kg k).1.stackTraces = false) {b M : Nat} {xs : Nat → Int32} (hsc : ScK k b M xs) {i : Int32} (hv1 : vp_in (i + 1) M) {I : XS → XS → Prop} (hcg : Cong I) (hMK : MKs I) (hA : AgT I code1 cvI (fun E => E = "java/lang/IndexOutOfBoundsException") (f_X8_peacesWith (xs (i + 1).toNatClampNeg)) (fun z => some (pewU (xs (i + 1).toNatClampNeg) (r0 z)))) {a : Nat → Nat} {x : XS} {cells slots : Nat} (hI : I x (pul 49 x)) (hrm : cells + 30 ≤ 601000 ∧ slots + 3000 ≤ 7293000)
    (kk : ∀ (a : Nat → Nat) (x : XS), I x (pul 49 x) → Wx k (cells + 30) (slots + 3000) LL a x 1875 [(0, .ref b), (1, .ref (a 0)), (2, .ref (a 49)), (3, .ref (a 48)), (4, .int i)] []) : Wx k cells slots LL a x 1137 [(0, .ref b), (1, .ref (a 0)), (2, .ref (a 49)), (3, .ref (a 48)), (4, .int i)] [] := by
  rcases hA x (pul 49 x) hI with ⟨E, x1, w, hu, hw, hth, hes, hI1⟩ | ⟨v, x1, w, hu, hw, hth, hcv, hI1⟩
  · obtain rfl := Option.some.inj hw
    refine xaload_n hk dL_law_1137 rfl ?_
    refine xaload_n hk dL_law_1138 rfl ?_
    refine xiload hk dL_law_1139 rfl ?_
    refine xiconst (v := 1) hk dL_law_1141 (by decide) ?_
    refine xiadd hk dL_law_1142 ?_
    refine xsld hk hsc dL_law_1143 hv1 ?_
    refine xaload_n hk dL_law_1144 rfl ?_
    refine xcallSWO 0 sub_FO pa0 px0 hk hNc (w_peacesWith hfl hu (fun E x h => by cases h; exact hes) (fun v x h => by cases h)) cw_peacesWith kL_190 dL_law_1145 rfl rfl (by decide) ⟨by omega, by omega⟩ (Nat.le_of_ble_eq_true rfl) ?_
    rintro _ x9 hw9
    obtain ⟨rfl, rfl⟩ := hw9
    rw [show LFO.length = 49 from rfl]
    refine xistore hk dL_law_1148 (by decide) ?_
    refine xaload_n hk dL_law_1150 rfl ?_
    refine xaload_n hk dL_law_1151 rfl ?_
    refine xiload hk dL_law_1152 rfl ?_
    refine xiconst (v := 1) hk dL_law_1154 (by decide) ?_
    refine xiadd hk dL_law_1155 ?_
    refine xsld hk hsc dL_law_1156 hv1 ?_
    refine xcallVO 49 sub_M rfl (pul49 (by decide)) hk (c_X10_peacesWith (hMK hI).1) bX10_peacesWith kL_192 dL_law_1157 rfl ⟨_, _, _, _, rfl, rfl⟩ rfl (by decide) ⟨by omega, by omega⟩ (Nat.le_of_ble_eq_true rfl) (det ?_)
    rw [show LM.length = 21 from rfl]
    refine xistore hk dL_law_1160 (by decide) ?_
    refine xaload_n hk dL_law_1162 rfl ?_
    refine xcallVO 49 sub_M rfl rfl hk c_X10_thrown bX10_thrown kL_103 dL_law_1163 rfl ⟨_, _, _, _, rfl, rfl⟩ rfl (by decide) ⟨by omega, by omega⟩ (Nat.le_of_ble_eq_true rfl) (det ?_)
    rw [show LM.length = 21 from rfl, xmix_self, thr_at, hth]
    refine xiload hk dL_law_1166 rfl ?_
    refine xicmp_eq hk 1173 dL_law_1168 (by decide) (fun _ => ?_) (fun hne => absurd rfl hne)
    refine xiload hk dL_law_1173 rfl ?_
    refine xif_ne hk 1190 dL_law_1175 (by decide) (fun _ => ?_) (fun hz => absurd hz (code1_ne _))
    refine xgoto hk 1875 dL_law_1190 (by decide) ?_
    refine xsub [(0, .ref b), (1, .ref (a 0)), (2, .ref (a 49)), (3, .ref (a 48)), (4, .int i)] rfl ?_
    exact xwiden (by omega) (by omega) (kk a _ (hcg hI1 (cg_lawF mix48 ⟨by decide, by decide⟩) cg_lawM))
  · obtain rfl := Option.some.inj hw
    refine xaload_n hk dL_law_1137 rfl ?_
    refine xaload_n hk dL_law_1138 rfl ?_
    refine xiload hk dL_law_1139 rfl ?_
    refine xiconst (v := 1) hk dL_law_1141 (by decide) ?_
    refine xiadd hk dL_law_1142 ?_
    refine xsld hk hsc dL_law_1143 hv1 ?_
    refine xaload_n hk dL_law_1144 rfl ?_
    refine xcallSWO 0 sub_FO pa0 px0 hk hNc (w_peacesWith hfl hu (fun E x h => by cases h) (fun v x h => by cases h; exact ⟨_, rfl⟩)) cw_peacesWith kL_190 dL_law_1145 rfl rfl (by decide) ⟨by omega, by omega⟩ (Nat.le_of_ble_eq_true rfl) ?_
    rintro _ x9 hw9
    obtain ⟨rfl, rfl⟩ := hw9
    rw [show LFO.length = 49 from rfl]
    refine xistore hk dL_law_1148 (by decide) ?_
    refine xaload_n hk dL_law_1150 rfl ?_
    refine xaload_n hk dL_law_1151 rfl ?_
    refine xiload hk dL_law_1152 rfl ?_
    refine xiconst (v := 1) hk dL_law_1154 (by decide) ?_
    refine xiadd hk dL_law_1155 ?_
    refine xsld hk hsc dL_law_1156 hv1 ?_
    refine xcallVO 49 sub_M rfl (pul49 (by decide)) hk (c_X10_peacesWith (hMK hI).1) bX10_peacesWith kL_192 dL_law_1157 rfl ⟨_, _, _, _, rfl, rfl⟩ rfl (by decide) ⟨by omega, by omega⟩ (Nat.le_of_ble_eq_true rfl) (det ?_)
    rw [show LM.length = 21 from rfl]
    refine xistore hk dL_law_1160 (by decide) ?_
    refine xaload_n hk dL_law_1162 rfl ?_
    refine xcallVO 49 sub_M rfl rfl hk c_X10_thrown bX10_thrown kL_103 dL_law_1163 rfl ⟨_, _, _, _, rfl, rfl⟩ rfl (by decide) ⟨by omega, by omega⟩ (Nat.le_of_ble_eq_true rfl) (det ?_)
    rw [show LM.length = 21 from rfl, xmix_self, thr_at, hth]
    refine xiload hk dL_law_1166 rfl ?_
    refine xicmp_eq hk 1173 dL_law_1168 (by decide) (fun _ => ?_) (fun hne => absurd rfl hne)
    refine xiload hk dL_law_1173 rfl ?_
    refine xif_ne hk 1190 dL_law_1175 (by decide) (fun hz => absurd rfl hz) (fun _ => ?_)
    refine xaload_n hk dL_law_1178 rfl ?_
    refine xiconst (v := 0) hk dL_law_1179 (by decide) ?_
    refine xlald hk dL_law_1180 rfl (inB_v (by decide)) ?_
    rw [show (0 : Int32).toNatClampNeg = 0 from rfl, out_at, hcv]
    refine xiload hk dL_law_1181 rfl ?_
    refine xi2l hk dL_law_1183 ?_
    refine xlcmp hk dL_law_1184 ?_
    refine xif_eq hk 1190 dL_law_1185 (by decide) (fun _ => ?_) (fun hz => absurd (lg_self _) hz)
    refine xgoto hk 1875 dL_law_1190 (by decide) ?_
    refine xsub [(0, .ref b), (1, .ref (a 0)), (2, .ref (a 49)), (3, .ref (a 48)), (4, .int i)] rfl ?_
    exact xwiden (by omega) (by omega) (kk a _ (hcg hI1 (cg_lawF mix48o ⟨by decide, by decide⟩) cg_lawM))
theorem cw_isPossible : CBw yL_isPossible cL_isPossible 4 (some .int) [(0, 16, 19, 24)] 3 := ⟨gw_mem 1032 (by decide +kernel) (by decide +kernel), gw_mem 0 (by decide +kernel) (by decide +kernel), gw_mem 1031 (by decide +kernel) (by decide +kernel), by decide +kernel, by decide⟩
set_option maxHeartbeats 4000000 in
set_option maxRecDepth 100000 in
theorem law_isPossible {k : Kx} {nm : String} (hk : Fok k code 9 RL ret nm 1312 601000 7293000) (hNc : NcK k) (hfl : (kg k).1.stackTraces = false) {b M : Nat} {xs : Nat → Int32} (hsc : ScK k b M xs) {i : Int32} (hv1 : vp_in (i + 1) M) {I : XS → XS → Prop} (hcg : Cong I) (hMK : MKs I) (hA : AgT I code1 cvB (fun E => E = "java/lang/IndexOutOfBoundsException") (f_X8_isPossible (xs (i + 1).toNatClampNeg)) (mb (fun z => some (posU (xs (i + 1).toNatClampNeg) (r0 z))))) {a : Nat → Nat} {x : XS} {cells slots : Nat} (hI : I x (pul 49 x)) (hrm : cells + 30 ≤ 601000 ∧ slots + 3000 ≤ 7293000)
    (kk : ∀ (a : Nat → Nat) (x : XS), I x (pul 49 x) → Wx k (cells + 30) (slots + 3000) LL a x 1875 [(0, .ref b), (1, .ref (a 0)), (2, .ref (a 49)), (3, .ref (a 48)), (4, .int i)] []) : Wx k cells slots LL a x 1193 [(0, .ref b), (1, .ref (a 0)), (2, .ref (a 49)), (3, .ref (a 48)), (4, .int i)] [] := by
  rcases hA x (pul 49 x) hI with ⟨E, x1, w, hu, hw, hth, hes, hI1⟩ | ⟨v, x1, w, hu, hw, hth, hcv, hI1⟩
  · obtain ⟨w, hg, rfl⟩ := mb_some hw
    obtain rfl := Option.some.inj hg
    refine xaload_n hk dL_law_1193 rfl ?_
    refine xaload_n hk dL_law_1194 rfl ?_
    refine xiload hk dL_law_1195 rfl ?_
    refine xiconst (v := 1) hk dL_law_1197 (by decide) ?_
    refine xiadd hk dL_law_1198 ?_
    refine xsld hk hsc dL_law_1199 hv1 ?_
    refine xaload_n hk dL_law_1200 rfl ?_
    refine xcallSWO 0 sub_FO pa0 px0 hk hNc (w_isPossible hfl hu (fun E x h => by cases h; exact hes) (fun v x h => by cases h)) cw_isPossible kL_193 dL_law_1201 rfl rfl (by decide) ⟨by omega, by omega⟩ (Nat.le_of_ble_eq_true rfl) ?_
    rintro _ x9 hw9
    obtain ⟨rfl, rfl⟩ := hw9
    rw [show LFO.length = 49 from rfl]
    refine xistore hk dL_law_1204 (by decide) ?_
    refine xaload_n hk dL_law_1206 rfl ?_
    refine xaload_n hk dL_law_1207 rfl ?_
    refine xiload hk dL_law_1208 rfl ?_
    refine xiconst (v := 1) hk dL_law_1210 (by decide) ?_
    refine xiadd hk dL_law_1211 ?_
    refine xsld hk hsc dL_law_1212 hv1 ?_
    refine xcallVO 49 sub_M rfl (pul49 (by decide)) hk (c_X10_isPossible (hMK hI).1) bX10_isPossible kL_195 dL_law_1213 rfl ⟨_, _, _, _, rfl, rfl⟩ rfl (by decide) ⟨by omega, by omega⟩ (Nat.le_of_ble_eq_true rfl) (det ?_)
    rw [show LM.length = 21 from rfl]
    refine xistore hk dL_law_1216 (by decide) ?_
    refine xaload_n hk dL_law_1218 rfl ?_
    refine xcallVO 49 sub_M rfl rfl hk c_X10_thrown bX10_thrown kL_103 dL_law_1219 rfl ⟨_, _, _, _, rfl, rfl⟩ rfl (by decide) ⟨by omega, by omega⟩ (Nat.le_of_ble_eq_true rfl) (det ?_)
    rw [show LM.length = 21 from rfl, xmix_self, thr_at, hth]
    refine xiload hk dL_law_1222 rfl ?_
    refine xicmp_eq hk 1229 dL_law_1224 (by decide) (fun _ => ?_) (fun hne => absurd rfl hne)
    refine xiload hk dL_law_1229 rfl ?_
    refine xif_ne hk 1253 dL_law_1231 (by decide) (fun _ => ?_) (fun hz => absurd hz (code1_ne _))
    refine xgoto hk 1875 dL_law_1253 (by decide) ?_
    refine xsub [(0, .ref b), (1, .ref (a 0)), (2, .ref (a 49)), (3, .ref (a 48)), (4, .int i)] rfl ?_
    exact xwiden (by omega) (by omega) (kk a _ (hcg hI1 (cg_lawF mix48 ⟨by decide, by decide⟩) cg_lawM))
  · obtain ⟨w, hg, rfl⟩ := mb_some hw
    obtain rfl := Option.some.inj hg
    refine xaload_n hk dL_law_1193 rfl ?_
    refine xaload_n hk dL_law_1194 rfl ?_
    refine xiload hk dL_law_1195 rfl ?_
    refine xiconst (v := 1) hk dL_law_1197 (by decide) ?_
    refine xiadd hk dL_law_1198 ?_
    refine xsld hk hsc dL_law_1199 hv1 ?_
    refine xaload_n hk dL_law_1200 rfl ?_
    refine xcallSWO 0 sub_FO pa0 px0 hk hNc (w_isPossible hfl hu (fun E x h => by cases h) (fun v x h => by cases h; exact ⟨_, rfl⟩)) cw_isPossible kL_193 dL_law_1201 rfl rfl (by decide) ⟨by omega, by omega⟩ (Nat.le_of_ble_eq_true rfl) ?_
    rintro _ x9 hw9
    obtain ⟨rfl, rfl⟩ := hw9
    rw [show LFO.length = 49 from rfl]
    refine xistore hk dL_law_1204 (by decide) ?_
    refine xaload_n hk dL_law_1206 rfl ?_
    refine xaload_n hk dL_law_1207 rfl ?_
    refine xiload hk dL_law_1208 rfl ?_
    refine xiconst (v := 1) hk dL_law_1210 (by decide) ?_
    refine xiadd hk dL_law_1211 ?_
    refine xsld hk hsc dL_law_1212 hv1 ?_
    refine xcallVO 49 sub_M rfl (pul49 (by decide)) hk (c_X10_isPossible (hMK hI).1) bX10_isPossible kL_195 dL_law_1213 rfl ⟨_, _, _, _, rfl, rfl⟩ rfl (by decide) ⟨by omega, by omega⟩ (Nat.le_of_ble_eq_true rfl) (det ?_)
    rw [show LM.length = 21 from rfl]
    refine xistore hk dL_law_1216 (by decide) ?_
    refine xaload_n hk dL_law_1218 rfl ?_
    refine xcallVO 49 sub_M rfl rfl hk c_X10_thrown bX10_thrown kL_103 dL_law_1219 rfl ⟨_, _, _, _, rfl, rfl⟩ rfl (by decide) ⟨by omega, by omega⟩ (Nat.le_of_ble_eq_true rfl) (det ?_)
    rw [show LM.length = 21 from rfl, xmix_self, thr_at, hth]
    refine xiload hk dL_law_1222 rfl ?_
    refine xicmp_eq hk 1229 dL_law_1224 (by decide) (fun _ => ?_) (fun hne => absurd rfl hne)
    refine xiload hk dL_law_1229 rfl ?_
    refine xif_ne hk 1253 dL_law_1231 (by decide) (fun hz => absurd rfl hz) (fun _ => ?_)
    refine xaload_n hk dL_law_1234 rfl ?_
    refine xiconst (v := 0) hk dL_law_1235 (by decide) ?_
    refine xlald hk dL_law_1236 rfl (inB_v (by decide)) ?_
    rw [show (0 : Int32).toNatClampNeg = 0 from rfl, out_at, hcv]
    refine xiload hk dL_law_1237 rfl ?_
    refine xif_eq hk 1246 dL_law_1239 (by decide) (fun hz => ?_) (fun hz => ?_)
    · refine xlconst (v := 0) hk dL_law_1246 (by decide) ?_
      rw [cvB, if_pos hz]
      refine xlcmp hk dL_law_1247 ?_
      refine xif_eq hk 1253 dL_law_1248 (by decide) (fun _ => ?_) (fun hz => absurd (lg_self _) hz)
      refine xgoto hk 1875 dL_law_1253 (by decide) ?_
      refine xsub [(0, .ref b), (1, .ref (a 0)), (2, .ref (a 49)), (3, .ref (a 48)), (4, .int i)] rfl ?_
      exact xwiden (by omega) (by omega) (kk a _ (hcg hI1 (cg_lawF mix48o ⟨by decide, by decide⟩) cg_lawM))
    · refine xlconst (v := 1) hk dL_law_1242 (by decide) ?_
      refine xgoto hk 1247 dL_law_1243 (by decide) ?_
      rw [cvB, if_neg hz]
      refine xlcmp hk dL_law_1247 ?_
      refine xif_eq hk 1253 dL_law_1248 (by decide) (fun _ => ?_) (fun hz => absurd (lg_self _) hz)
      refine xgoto hk 1875 dL_law_1253 (by decide) ?_
      refine xsub [(0, .ref b), (1, .ref (a 0)), (2, .ref (a 49)), (3, .ref (a 48)), (4, .int i)] rfl ?_
      exact xwiden (by omega) (by omega) (kk a _ (hcg hI1 (cg_lawF mix48o ⟨by decide, by decide⟩) cg_lawM))
theorem cw_isSettled : CBw yL_isSettled cL_isSettled 4 (some .int) [(0, 16, 19, 24), (0, 16, 22, 13)] 3 := ⟨gw_mem 1039 (by decide +kernel) (by decide +kernel), gw_mem 0 (by decide +kernel) (by decide +kernel), gw_mem 1038 (by decide +kernel) (by decide +kernel), by decide +kernel, by decide⟩
set_option maxHeartbeats 4000000 in
set_option maxRecDepth 100000 in
theorem law_isSettled {k : Kx} {nm : String} (hk : Fok k code 9 RL ret nm 1312 601000 7293000) (hNc : NcK k) (hfl : (kg k).1.stackTraces = false) {b M : Nat} {xs : Nat → Int32} (hsc : ScK k b M xs) {i : Int32} (hv1 : vp_in (i + 1) M) {I : XS → XS → Prop} (hcg : Cong I) (hMK : MKs I) (hA : AgT I code2 cvB (fun E => E = "java/lang/IndexOutOfBoundsException" ∨ E = "java/lang/IllegalStateException") (f_X8_isSettled (xs (i + 1).toNatClampNeg)) (mb (f_X10_isSettled (xs (i + 1).toNatClampNeg)))) {a : Nat → Nat} {x : XS} {cells slots : Nat} (hI : I x (pul 49 x)) (hrm : cells + 30 ≤ 601000 ∧ slots + 3000 ≤ 7293000)
    (kk : ∀ (a : Nat → Nat) (x : XS), I x (pul 49 x) → Wx k (cells + 30) (slots + 3000) LL a x 1875 [(0, .ref b), (1, .ref (a 0)), (2, .ref (a 49)), (3, .ref (a 48)), (4, .int i)] []) : Wx k cells slots LL a x 1256 [(0, .ref b), (1, .ref (a 0)), (2, .ref (a 49)), (3, .ref (a 48)), (4, .int i)] [] := by
  rcases hA x (pul 49 x) hI with ⟨E, x1, w, hu, hw, hth, hes, hI1⟩ | ⟨v, x1, w, hu, hw, hth, hcv, hI1⟩
  · obtain ⟨w, hg, rfl⟩ := mb_some hw
    refine xaload_n hk dL_law_1256 rfl ?_
    refine xaload_n hk dL_law_1257 rfl ?_
    refine xiload hk dL_law_1258 rfl ?_
    refine xiconst (v := 1) hk dL_law_1260 (by decide) ?_
    refine xiadd hk dL_law_1261 ?_
    refine xsld hk hsc dL_law_1262 hv1 ?_
    refine xaload_n hk dL_law_1263 rfl ?_
    refine xcallSWO 0 sub_FO pa0 px0 hk hNc (w_isSettled hfl hu (fun E x h => by cases h; exact hes) (fun v x h => by cases h)) cw_isSettled kL_196 dL_law_1264 rfl rfl (by decide) ⟨by omega, by omega⟩ (Nat.le_of_ble_eq_true rfl) ?_
    rintro _ x9 hw9
    obtain ⟨rfl, rfl⟩ := hw9
    rw [show LFO.length = 49 from rfl]
    refine xistore hk dL_law_1267 (by decide) ?_
    refine xaload_n hk dL_law_1269 rfl ?_
    refine xaload_n hk dL_law_1270 rfl ?_
    refine xiload hk dL_law_1271 rfl ?_
    refine xiconst (v := 1) hk dL_law_1273 (by decide) ?_
    refine xiadd hk dL_law_1274 ?_
    refine xsld hk hsc dL_law_1275 hv1 ?_
    refine xcallVO 49 sub_M rfl (pul49 (by decide)) hk (c_X10_isSettled hg) bX10_isSettled kL_198 dL_law_1276 rfl ⟨_, _, _, _, rfl, rfl⟩ rfl (by decide) ⟨by omega, by omega⟩ (Nat.le_of_ble_eq_true rfl) (det ?_)
    rw [show LM.length = 21 from rfl]
    refine xistore hk dL_law_1279 (by decide) ?_
    refine xaload_n hk dL_law_1281 rfl ?_
    refine xcallVO 49 sub_M rfl rfl hk c_X10_thrown bX10_thrown kL_103 dL_law_1282 rfl ⟨_, _, _, _, rfl, rfl⟩ rfl (by decide) ⟨by omega, by omega⟩ (Nat.le_of_ble_eq_true rfl) (det ?_)
    rw [show LM.length = 21 from rfl, xmix_self, thr_at, hth]
    refine xiload hk dL_law_1285 rfl ?_
    refine xicmp_eq hk 1292 dL_law_1287 (by decide) (fun _ => ?_) (fun hne => absurd rfl hne)
    refine xiload hk dL_law_1292 rfl ?_
    refine xif_ne hk 1316 dL_law_1294 (by decide) (fun _ => ?_) (fun hz => absurd hz (code2_ne _))
    refine xgoto hk 1875 dL_law_1316 (by decide) ?_
    refine xsub [(0, .ref b), (1, .ref (a 0)), (2, .ref (a 49)), (3, .ref (a 48)), (4, .int i)] rfl ?_
    exact xwiden (by omega) (by omega) (kk a _ (hcg hI1 (cg_lawF mix48 ⟨by decide, by decide⟩) cg_lawM))
  · obtain ⟨w, hg, rfl⟩ := mb_some hw
    refine xaload_n hk dL_law_1256 rfl ?_
    refine xaload_n hk dL_law_1257 rfl ?_
    refine xiload hk dL_law_1258 rfl ?_
    refine xiconst (v := 1) hk dL_law_1260 (by decide) ?_
    refine xiadd hk dL_law_1261 ?_
    refine xsld hk hsc dL_law_1262 hv1 ?_
    refine xaload_n hk dL_law_1263 rfl ?_
    refine xcallSWO 0 sub_FO pa0 px0 hk hNc (w_isSettled hfl hu (fun E x h => by cases h) (fun v x h => by cases h; exact ⟨_, rfl⟩)) cw_isSettled kL_196 dL_law_1264 rfl rfl (by decide) ⟨by omega, by omega⟩ (Nat.le_of_ble_eq_true rfl) ?_
    rintro _ x9 hw9
    obtain ⟨rfl, rfl⟩ := hw9
    rw [show LFO.length = 49 from rfl]
    refine xistore hk dL_law_1267 (by decide) ?_
    refine xaload_n hk dL_law_1269 rfl ?_
    refine xaload_n hk dL_law_1270 rfl ?_
    refine xiload hk dL_law_1271 rfl ?_
    refine xiconst (v := 1) hk dL_law_1273 (by decide) ?_
    refine xiadd hk dL_law_1274 ?_
    refine xsld hk hsc dL_law_1275 hv1 ?_
    refine xcallVO 49 sub_M rfl (pul49 (by decide)) hk (c_X10_isSettled hg) bX10_isSettled kL_198 dL_law_1276 rfl ⟨_, _, _, _, rfl, rfl⟩ rfl (by decide) ⟨by omega, by omega⟩ (Nat.le_of_ble_eq_true rfl) (det ?_)
    rw [show LM.length = 21 from rfl]
    refine xistore hk dL_law_1279 (by decide) ?_
    refine xaload_n hk dL_law_1281 rfl ?_
    refine xcallVO 49 sub_M rfl rfl hk c_X10_thrown bX10_thrown kL_103 dL_law_1282 rfl ⟨_, _, _, _, rfl, rfl⟩ rfl (by decide) ⟨by omega, by omega⟩ (Nat.le_of_ble_eq_true rfl) (det ?_)
    rw [show LM.length = 21 from rfl, xmix_self, thr_at, hth]
    refine xiload hk dL_law_1285 rfl ?_
    refine xicmp_eq hk 1292 dL_law_1287 (by decide) (fun _ => ?_) (fun hne => absurd rfl hne)
    refine xiload hk dL_law_1292 rfl ?_
    refine xif_ne hk 1316 dL_law_1294 (by decide) (fun hz => absurd rfl hz) (fun _ => ?_)
    refine xaload_n hk dL_law_1297 rfl ?_
    refine xiconst (v := 0) hk dL_law_1298 (by decide) ?_
    refine xlald hk dL_law_1299 rfl (inB_v (by decide)) ?_
    rw [show (0 : Int32).toNatClampNeg = 0 from rfl, out_at, hcv]
    refine xiload hk dL_law_1300 rfl ?_
    refine xif_eq hk 1309 dL_law_1302 (by decide) (fun hz => ?_) (fun hz => ?_)
    · refine xlconst (v := 0) hk dL_law_1309 (by decide) ?_
      rw [cvB, if_pos hz]
      refine xlcmp hk dL_law_1310 ?_
      refine xif_eq hk 1316 dL_law_1311 (by decide) (fun _ => ?_) (fun hz => absurd (lg_self _) hz)
      refine xgoto hk 1875 dL_law_1316 (by decide) ?_
      refine xsub [(0, .ref b), (1, .ref (a 0)), (2, .ref (a 49)), (3, .ref (a 48)), (4, .int i)] rfl ?_
      exact xwiden (by omega) (by omega) (kk a _ (hcg hI1 (cg_lawF mix48o ⟨by decide, by decide⟩) cg_lawM))
    · refine xlconst (v := 1) hk dL_law_1305 (by decide) ?_
      refine xgoto hk 1310 dL_law_1306 (by decide) ?_
      rw [cvB, if_neg hz]
      refine xlcmp hk dL_law_1310 ?_
      refine xif_eq hk 1316 dL_law_1311 (by decide) (fun _ => ?_) (fun hz => absurd (lg_self _) hz)
      refine xgoto hk 1875 dL_law_1316 (by decide) ?_
      refine xsub [(0, .ref b), (1, .ref (a 0)), (2, .ref (a 49)), (3, .ref (a 48)), (4, .int i)] rfl ?_
      exact xwiden (by omega) (by omega) (kk a _ (hcg hI1 (cg_lawF mix48o ⟨by decide, by decide⟩) cg_lawM))
theorem cw_ridesInPeace : CBw yL_ridesInPeace cL_ridesInPeace 4 (some .int) [(0, 16, 19, 24), (0, 16, 22, 13)] 3 := ⟨gw_mem 1051 (by decide +kernel) (by decide +kernel), gw_mem 0 (by decide +kernel) (by decide +kernel), gw_mem 1050 (by decide +kernel) (by decide +kernel), by decide +kernel, by decide⟩
set_option maxHeartbeats 4000000 in
set_option maxRecDepth 100000 in
theorem law_ridesInPeace {k : Kx} {nm : String} (hk : Fok k code 9 RL ret nm 1312 601000 7293000) (hNc : NcK k) (hfl : (kg k).1.stackTraces = false) {b M : Nat} {xs : Nat → Int32} (hsc : ScK k b M xs) {i : Int32} (hv1 : vp_in (i + 1) M) {I : XS → XS → Prop} (hcg : Cong I) (hMK : MKs I) (hA : AgT I code2 cvB (fun E => E = "java/lang/IndexOutOfBoundsException" ∨ E = "java/lang/IllegalStateException") (f_X8_ridesInPeace (xs (i + 1).toNatClampNeg)) (mb (f_X10_ridesInPeace (xs (i + 1).toNatClampNeg)))) {a : Nat → Nat} {x : XS} {cells slots : Nat} (hI : I x (pul 49 x)) (hrm : cells + 30 ≤ 601000 ∧ slots + 3000 ≤ 7293000)
    (kk : ∀ (a : Nat → Nat) (x : XS), I x (pul 49 x) → Wx k (cells + 30) (slots + 3000) LL a x 1875 [(0, .ref b), (1, .ref (a 0)), (2, .ref (a 49)), (3, .ref (a 48)), (4, .int i)] []) : Wx k cells slots LL a x 1319 [(0, .ref b), (1, .ref (a 0)), (2, .ref (a 49)), (3, .ref (a 48)), (4, .int i)] [] := by
  rcases hA x (pul 49 x) hI with ⟨E, x1, w, hu, hw, hth, hes, hI1⟩ | ⟨v, x1, w, hu, hw, hth, hcv, hI1⟩
  · obtain ⟨w, hg, rfl⟩ := mb_some hw
    refine xaload_n hk dL_law_1319 rfl ?_
    refine xaload_n hk dL_law_1320 rfl ?_
    refine xiload hk dL_law_1321 rfl ?_
    refine xiconst (v := 1) hk dL_law_1323 (by decide) ?_
    refine xiadd hk dL_law_1324 ?_
    refine xsld hk hsc dL_law_1325 hv1 ?_
    refine xaload_n hk dL_law_1326 rfl ?_
    refine xcallSWO 0 sub_FO pa0 px0 hk hNc (w_ridesInPeace hfl hu (fun E x h => by cases h; exact hes) (fun v x h => by cases h)) cw_ridesInPeace kL_199 dL_law_1327 rfl rfl (by decide) ⟨by omega, by omega⟩ (Nat.le_of_ble_eq_true rfl) ?_
    rintro _ x9 hw9
    obtain ⟨rfl, rfl⟩ := hw9
    rw [show LFO.length = 49 from rfl]
    refine xistore hk dL_law_1330 (by decide) ?_
    refine xaload_n hk dL_law_1332 rfl ?_
    refine xaload_n hk dL_law_1333 rfl ?_
    refine xiload hk dL_law_1334 rfl ?_
    refine xiconst (v := 1) hk dL_law_1336 (by decide) ?_
    refine xiadd hk dL_law_1337 ?_
    refine xsld hk hsc dL_law_1338 hv1 ?_
    refine xcallVO 49 sub_M rfl (pul49 (by decide)) hk (c_X10_ridesInPeace hg) bX10_ridesInPeace kL_201 dL_law_1339 rfl ⟨_, _, _, _, rfl, rfl⟩ rfl (by decide) ⟨by omega, by omega⟩ (Nat.le_of_ble_eq_true rfl) (det ?_)
    rw [show LM.length = 21 from rfl]
    refine xistore hk dL_law_1342 (by decide) ?_
    refine xaload_n hk dL_law_1344 rfl ?_
    refine xcallVO 49 sub_M rfl rfl hk c_X10_thrown bX10_thrown kL_103 dL_law_1345 rfl ⟨_, _, _, _, rfl, rfl⟩ rfl (by decide) ⟨by omega, by omega⟩ (Nat.le_of_ble_eq_true rfl) (det ?_)
    rw [show LM.length = 21 from rfl, xmix_self, thr_at, hth]
    refine xiload hk dL_law_1348 rfl ?_
    refine xicmp_eq hk 1355 dL_law_1350 (by decide) (fun _ => ?_) (fun hne => absurd rfl hne)
    refine xiload hk dL_law_1355 rfl ?_
    refine xif_ne hk 1379 dL_law_1357 (by decide) (fun _ => ?_) (fun hz => absurd hz (code2_ne _))
    refine xgoto hk 1875 dL_law_1379 (by decide) ?_
    refine xsub [(0, .ref b), (1, .ref (a 0)), (2, .ref (a 49)), (3, .ref (a 48)), (4, .int i)] rfl ?_
    exact xwiden (by omega) (by omega) (kk a _ (hcg hI1 (cg_lawF mix48 ⟨by decide, by decide⟩) cg_lawM))
  · obtain ⟨w, hg, rfl⟩ := mb_some hw
    refine xaload_n hk dL_law_1319 rfl ?_
    refine xaload_n hk dL_law_1320 rfl ?_
    refine xiload hk dL_law_1321 rfl ?_
    refine xiconst (v := 1) hk dL_law_1323 (by decide) ?_
    refine xiadd hk dL_law_1324 ?_
    refine xsld hk hsc dL_law_1325 hv1 ?_
    refine xaload_n hk dL_law_1326 rfl ?_
    refine xcallSWO 0 sub_FO pa0 px0 hk hNc (w_ridesInPeace hfl hu (fun E x h => by cases h) (fun v x h => by cases h; exact ⟨_, rfl⟩)) cw_ridesInPeace kL_199 dL_law_1327 rfl rfl (by decide) ⟨by omega, by omega⟩ (Nat.le_of_ble_eq_true rfl) ?_
    rintro _ x9 hw9
    obtain ⟨rfl, rfl⟩ := hw9
    rw [show LFO.length = 49 from rfl]
    refine xistore hk dL_law_1330 (by decide) ?_
    refine xaload_n hk dL_law_1332 rfl ?_
    refine xaload_n hk dL_law_1333 rfl ?_
    refine xiload hk dL_law_1334 rfl ?_
    refine xiconst (v := 1) hk dL_law_1336 (by decide) ?_
    refine xiadd hk dL_law_1337 ?_
    refine xsld hk hsc dL_law_1338 hv1 ?_
    refine xcallVO 49 sub_M rfl (pul49 (by decide)) hk (c_X10_ridesInPeace hg) bX10_ridesInPeace kL_201 dL_law_1339 rfl ⟨_, _, _, _, rfl, rfl⟩ rfl (by decide) ⟨by omega, by omega⟩ (Nat.le_of_ble_eq_true rfl) (det ?_)
    rw [show LM.length = 21 from rfl]
    refine xistore hk dL_law_1342 (by decide) ?_
    refine xaload_n hk dL_law_1344 rfl ?_
    refine xcallVO 49 sub_M rfl rfl hk c_X10_thrown bX10_thrown kL_103 dL_law_1345 rfl ⟨_, _, _, _, rfl, rfl⟩ rfl (by decide) ⟨by omega, by omega⟩ (Nat.le_of_ble_eq_true rfl) (det ?_)
    rw [show LM.length = 21 from rfl, xmix_self, thr_at, hth]
    refine xiload hk dL_law_1348 rfl ?_
    refine xicmp_eq hk 1355 dL_law_1350 (by decide) (fun _ => ?_) (fun hne => absurd rfl hne)
    refine xiload hk dL_law_1355 rfl ?_
    refine xif_ne hk 1379 dL_law_1357 (by decide) (fun hz => absurd rfl hz) (fun _ => ?_)
    refine xaload_n hk dL_law_1360 rfl ?_
    refine xiconst (v := 0) hk dL_law_1361 (by decide) ?_
    refine xlald hk dL_law_1362 rfl (inB_v (by decide)) ?_
    rw [show (0 : Int32).toNatClampNeg = 0 from rfl, out_at, hcv]
    refine xiload hk dL_law_1363 rfl ?_
    refine xif_eq hk 1372 dL_law_1365 (by decide) (fun hz => ?_) (fun hz => ?_)
    · refine xlconst (v := 0) hk dL_law_1372 (by decide) ?_
      rw [cvB, if_pos hz]
      refine xlcmp hk dL_law_1373 ?_
      refine xif_eq hk 1379 dL_law_1374 (by decide) (fun _ => ?_) (fun hz => absurd (lg_self _) hz)
      refine xgoto hk 1875 dL_law_1379 (by decide) ?_
      refine xsub [(0, .ref b), (1, .ref (a 0)), (2, .ref (a 49)), (3, .ref (a 48)), (4, .int i)] rfl ?_
      exact xwiden (by omega) (by omega) (kk a _ (hcg hI1 (cg_lawF mix48o ⟨by decide, by decide⟩) cg_lawM))
    · refine xlconst (v := 1) hk dL_law_1368 (by decide) ?_
      refine xgoto hk 1373 dL_law_1369 (by decide) ?_
      rw [cvB, if_neg hz]
      refine xlcmp hk dL_law_1373 ?_
      refine xif_eq hk 1379 dL_law_1374 (by decide) (fun _ => ?_) (fun hz => absurd (lg_self _) hz)
      refine xgoto hk 1875 dL_law_1379 (by decide) ?_
      refine xsub [(0, .ref b), (1, .ref (a 0)), (2, .ref (a 49)), (3, .ref (a 48)), (4, .int i)] rfl ?_
      exact xwiden (by omega) (by omega) (kk a _ (hcg hI1 (cg_lawF mix48o ⟨by decide, by decide⟩) cg_lawM))
theorem cw_ridersInPeace : CBw yL_ridersInPeace cL_ridersInPeace 3 (some .int) [(0, 8, 11, 13)] 2 := ⟨gw_mem 1059 (by decide +kernel) (by decide +kernel), gw_mem 0 (by decide +kernel) (by decide +kernel), gw_mem 1058 (by decide +kernel) (by decide +kernel), by decide +kernel, by decide⟩
set_option maxHeartbeats 4000000 in
set_option maxRecDepth 100000 in
theorem law_ridersInPeace {k : Kx} {nm : String} (hk : Fok k code 9 RL ret nm 1312 601000 7293000) (hNc : NcK k) (hfl : (kg k).1.stackTraces = false) {b M : Nat} {xs : Nat → Int32} (hsc : ScK k b M xs) {i : Int32}  {I : XS → XS → Prop} (hcg : Cong I) (hMK : MKs I) (hA : AgT I code1 cvI (fun E => E = "java/lang/IllegalStateException") (f_X8_ridersInPeace ) (f_X10_ridersInPeace )) {a : Nat → Nat} {x : XS} {cells slots : Nat} (hI : I x (pul 49 x)) (hrm : cells + 30 ≤ 601000 ∧ slots + 3000 ≤ 7293000)
    (kk : ∀ (a : Nat → Nat) (x : XS), I x (pul 49 x) → Wx k (cells + 30) (slots + 3000) LL a x 1875 [(0, .ref b), (1, .ref (a 0)), (2, .ref (a 49)), (3, .ref (a 48)), (4, .int i)] []) : Wx k cells slots LL a x 1382 [(0, .ref b), (1, .ref (a 0)), (2, .ref (a 49)), (3, .ref (a 48)), (4, .int i)] [] := by
  rcases hA x (pul 49 x) hI with ⟨E, x1, w, hu, hw, hth, hes, hI1⟩ | ⟨v, x1, w, hu, hw, hth, hcv, hI1⟩
  · refine xaload_n hk dL_law_1382 rfl ?_
    refine xaload_n hk dL_law_1383 rfl ?_
    refine xcallSWO 0 sub_FO pa0 px0 hk hNc (w_ridersInPeace hfl hu (fun E x h => by cases h; exact hes) (fun v x h => by cases h)) cw_ridersInPeace kL_202 dL_law_1384 rfl rfl (by decide) ⟨by omega, by omega⟩ (Nat.le_of_ble_eq_true rfl) ?_
    rintro _ x9 hw9
    obtain ⟨rfl, rfl⟩ := hw9
    rw [show LFO.length = 49 from rfl]
    refine xistore hk dL_law_1387 (by decide) ?_
    refine xaload_n hk dL_law_1389 rfl ?_
    refine xcallVO 49 sub_M rfl (pul49 (by decide)) hk (c_X10_ridersInPeace hw) bX10_ridersInPeace kL_205 dL_law_1390 rfl ⟨_, _, _, _, rfl, rfl⟩ rfl (by decide) ⟨by omega, by omega⟩ (Nat.le_of_ble_eq_true rfl) (det ?_)
    rw [show LM.length = 21 from rfl]
    refine xistore hk dL_law_1393 (by decide) ?_
    refine xaload_n hk dL_law_1395 rfl ?_
    refine xcallVO 49 sub_M rfl rfl hk c_X10_thrown bX10_thrown kL_103 dL_law_1396 rfl ⟨_, _, _, _, rfl, rfl⟩ rfl (by decide) ⟨by omega, by omega⟩ (Nat.le_of_ble_eq_true rfl) (det ?_)
    rw [show LM.length = 21 from rfl, xmix_self, thr_at, hth]
    refine xiload hk dL_law_1399 rfl ?_
    refine xicmp_eq hk 1406 dL_law_1401 (by decide) (fun _ => ?_) (fun hne => absurd rfl hne)
    refine xiload hk dL_law_1406 rfl ?_
    refine xif_ne hk 1423 dL_law_1408 (by decide) (fun _ => ?_) (fun hz => absurd hz (code1_ne _))
    refine xgoto hk 1875 dL_law_1423 (by decide) ?_
    refine xsub [(0, .ref b), (1, .ref (a 0)), (2, .ref (a 49)), (3, .ref (a 48)), (4, .int i)] rfl ?_
    exact xwiden (by omega) (by omega) (kk a _ (hcg hI1 (cg_lawF mix48 ⟨by decide, by decide⟩) cg_lawM))
  · refine xaload_n hk dL_law_1382 rfl ?_
    refine xaload_n hk dL_law_1383 rfl ?_
    refine xcallSWO 0 sub_FO pa0 px0 hk hNc (w_ridersInPeace hfl hu (fun E x h => by cases h) (fun v x h => by cases h; exact ⟨_, rfl⟩)) cw_ridersInPeace kL_202 dL_law_1384 rfl rfl (by decide) ⟨by omega, by omega⟩ (Nat.le_of_ble_eq_true rfl) ?_
    rintro _ x9 hw9
    obtain ⟨rfl, rfl⟩ := hw9
    rw [show LFO.length = 49 from rfl]
    refine xistore hk dL_law_1387 (by decide) ?_
    refine xaload_n hk dL_law_1389 rfl ?_
    refine xcallVO 49 sub_M rfl (pul49 (by decide)) hk (c_X10_ridersInPeace hw) bX10_ridersInPeace kL_205 dL_law_1390 rfl ⟨_, _, _, _, rfl, rfl⟩ rfl (by decide) ⟨by omega, by omega⟩ (Nat.le_of_ble_eq_true rfl) (det ?_)
    rw [show LM.length = 21 from rfl]
    refine xistore hk dL_law_1393 (by decide) ?_
    refine xaload_n hk dL_law_1395 rfl ?_
    refine xcallVO 49 sub_M rfl rfl hk c_X10_thrown bX10_thrown kL_103 dL_law_1396 rfl ⟨_, _, _, _, rfl, rfl⟩ rfl (by decide) ⟨by omega, by omega⟩ (Nat.le_of_ble_eq_true rfl) (det ?_)
    rw [show LM.length = 21 from rfl, xmix_self, thr_at, hth]
    refine xiload hk dL_law_1399 rfl ?_
    refine xicmp_eq hk 1406 dL_law_1401 (by decide) (fun _ => ?_) (fun hne => absurd rfl hne)
    refine xiload hk dL_law_1406 rfl ?_
    refine xif_ne hk 1423 dL_law_1408 (by decide) (fun hz => absurd rfl hz) (fun _ => ?_)
    refine xaload_n hk dL_law_1411 rfl ?_
    refine xiconst (v := 0) hk dL_law_1412 (by decide) ?_
    refine xlald hk dL_law_1413 rfl (inB_v (by decide)) ?_
    rw [show (0 : Int32).toNatClampNeg = 0 from rfl, out_at, hcv]
    refine xiload hk dL_law_1414 rfl ?_
    refine xi2l hk dL_law_1416 ?_
    refine xlcmp hk dL_law_1417 ?_
    refine xif_eq hk 1423 dL_law_1418 (by decide) (fun _ => ?_) (fun hz => absurd (lg_self _) hz)
    refine xgoto hk 1875 dL_law_1423 (by decide) ?_
    refine xsub [(0, .ref b), (1, .ref (a 0)), (2, .ref (a 49)), (3, .ref (a 48)), (4, .int i)] rfl ?_
    exact xwiden (by omega) (by omega) (kk a _ (hcg hI1 (cg_lawF mix48o ⟨by decide, by decide⟩) cg_lawM))
theorem cw_blamedFamily : CBw yL_blamedFamily cL_blamedFamily 3 (some .int) [(0, 8, 11, 13)] 2 := ⟨gw_mem 1066 (by decide +kernel) (by decide +kernel), gw_mem 0 (by decide +kernel) (by decide +kernel), gw_mem 1065 (by decide +kernel) (by decide +kernel), by decide +kernel, by decide⟩
set_option maxHeartbeats 4000000 in
set_option maxRecDepth 100000 in
theorem law_blamedFamily {k : Kx} {nm : String} (hk : Fok k code 9 RL ret nm 1312 601000 7293000) (hNc : NcK k) (hfl : (kg k).1.stackTraces = false) {b M : Nat} {xs : Nat → Int32} (hsc : ScK k b M xs) {i : Int32}  {I : XS → XS → Prop} (hcg : Cong I) (hMK : MKs I) (hA : AgT I code1 cvI (fun E => E = "java/lang/IllegalStateException") (f_X8_blamedFamily ) (f_X10_blamedFamily )) {a : Nat → Nat} {x : XS} {cells slots : Nat} (hI : I x (pul 49 x)) (hrm : cells + 30 ≤ 601000 ∧ slots + 3000 ≤ 7293000)
    (kk : ∀ (a : Nat → Nat) (x : XS), I x (pul 49 x) → Wx k (cells + 30) (slots + 3000) LL a x 1875 [(0, .ref b), (1, .ref (a 0)), (2, .ref (a 49)), (3, .ref (a 48)), (4, .int i)] []) : Wx k cells slots LL a x 1426 [(0, .ref b), (1, .ref (a 0)), (2, .ref (a 49)), (3, .ref (a 48)), (4, .int i)] [] := by
  rcases hA x (pul 49 x) hI with ⟨E, x1, w, hu, hw, hth, hes, hI1⟩ | ⟨v, x1, w, hu, hw, hth, hcv, hI1⟩
  · refine xaload_n hk dL_law_1426 rfl ?_
    refine xaload_n hk dL_law_1427 rfl ?_
    refine xcallSWO 0 sub_FO pa0 px0 hk hNc (w_blamedFamily hfl hu (fun E x h => by cases h; exact hes) (fun v x h => by cases h)) cw_blamedFamily kL_206 dL_law_1428 rfl rfl (by decide) ⟨by omega, by omega⟩ (Nat.le_of_ble_eq_true rfl) ?_
    rintro _ x9 hw9
    obtain ⟨rfl, rfl⟩ := hw9
    rw [show LFO.length = 49 from rfl]
    refine xistore hk dL_law_1431 (by decide) ?_
    refine xaload_n hk dL_law_1433 rfl ?_
    refine xcallVO 49 sub_M rfl (pul49 (by decide)) hk (c_X10_blamedFamily hw) bX10_blamedFamily kL_208 dL_law_1434 rfl ⟨_, _, _, _, rfl, rfl⟩ rfl (by decide) ⟨by omega, by omega⟩ (Nat.le_of_ble_eq_true rfl) (det ?_)
    rw [show LM.length = 21 from rfl]
    refine xistore hk dL_law_1437 (by decide) ?_
    refine xaload_n hk dL_law_1439 rfl ?_
    refine xcallVO 49 sub_M rfl rfl hk c_X10_thrown bX10_thrown kL_103 dL_law_1440 rfl ⟨_, _, _, _, rfl, rfl⟩ rfl (by decide) ⟨by omega, by omega⟩ (Nat.le_of_ble_eq_true rfl) (det ?_)
    rw [show LM.length = 21 from rfl, xmix_self, thr_at, hth]
    refine xiload hk dL_law_1443 rfl ?_
    refine xicmp_eq hk 1450 dL_law_1445 (by decide) (fun _ => ?_) (fun hne => absurd rfl hne)
    refine xiload hk dL_law_1450 rfl ?_
    refine xif_ne hk 1467 dL_law_1452 (by decide) (fun _ => ?_) (fun hz => absurd hz (code1_ne _))
    refine xgoto hk 1875 dL_law_1467 (by decide) ?_
    refine xsub [(0, .ref b), (1, .ref (a 0)), (2, .ref (a 49)), (3, .ref (a 48)), (4, .int i)] rfl ?_
    exact xwiden (by omega) (by omega) (kk a _ (hcg hI1 (cg_lawF mix48 ⟨by decide, by decide⟩) cg_lawM))
  · refine xaload_n hk dL_law_1426 rfl ?_
    refine xaload_n hk dL_law_1427 rfl ?_
    refine xcallSWO 0 sub_FO pa0 px0 hk hNc (w_blamedFamily hfl hu (fun E x h => by cases h) (fun v x h => by cases h; exact ⟨_, rfl⟩)) cw_blamedFamily kL_206 dL_law_1428 rfl rfl (by decide) ⟨by omega, by omega⟩ (Nat.le_of_ble_eq_true rfl) ?_
    rintro _ x9 hw9
    obtain ⟨rfl, rfl⟩ := hw9
    rw [show LFO.length = 49 from rfl]
    refine xistore hk dL_law_1431 (by decide) ?_
    refine xaload_n hk dL_law_1433 rfl ?_
    refine xcallVO 49 sub_M rfl (pul49 (by decide)) hk (c_X10_blamedFamily hw) bX10_blamedFamily kL_208 dL_law_1434 rfl ⟨_, _, _, _, rfl, rfl⟩ rfl (by decide) ⟨by omega, by omega⟩ (Nat.le_of_ble_eq_true rfl) (det ?_)
    rw [show LM.length = 21 from rfl]
    refine xistore hk dL_law_1437 (by decide) ?_
    refine xaload_n hk dL_law_1439 rfl ?_
    refine xcallVO 49 sub_M rfl rfl hk c_X10_thrown bX10_thrown kL_103 dL_law_1440 rfl ⟨_, _, _, _, rfl, rfl⟩ rfl (by decide) ⟨by omega, by omega⟩ (Nat.le_of_ble_eq_true rfl) (det ?_)
    rw [show LM.length = 21 from rfl, xmix_self, thr_at, hth]
    refine xiload hk dL_law_1443 rfl ?_
    refine xicmp_eq hk 1450 dL_law_1445 (by decide) (fun _ => ?_) (fun hne => absurd rfl hne)
    refine xiload hk dL_law_1450 rfl ?_
    refine xif_ne hk 1467 dL_law_1452 (by decide) (fun hz => absurd rfl hz) (fun _ => ?_)
    refine xaload_n hk dL_law_1455 rfl ?_
    refine xiconst (v := 0) hk dL_law_1456 (by decide) ?_
    refine xlald hk dL_law_1457 rfl (inB_v (by decide)) ?_
    rw [show (0 : Int32).toNatClampNeg = 0 from rfl, out_at, hcv]
    refine xiload hk dL_law_1458 rfl ?_
    refine xi2l hk dL_law_1460 ?_
    refine xlcmp hk dL_law_1461 ?_
    refine xif_eq hk 1467 dL_law_1462 (by decide) (fun _ => ?_) (fun hz => absurd (lg_self _) hz)
    refine xgoto hk 1875 dL_law_1467 (by decide) ?_
    refine xsub [(0, .ref b), (1, .ref (a 0)), (2, .ref (a 49)), (3, .ref (a 48)), (4, .int i)] rfl ?_
    exact xwiden (by omega) (by omega) (kk a _ (hcg hI1 (cg_lawF mix48o ⟨by decide, by decide⟩) cg_lawM))
theorem cw_breakStatement : CBw yL_breakStatement cL_breakStatement 4 (some .int) [(0, 9, 12, 24), (0, 9, 15, 13)] 3 := ⟨gw_mem 1074 (by decide +kernel) (by decide +kernel), gw_mem 0 (by decide +kernel) (by decide +kernel), gw_mem 1073 (by decide +kernel) (by decide +kernel), by decide +kernel, by decide⟩
set_option maxHeartbeats 4000000 in
set_option maxRecDepth 100000 in
theorem law_breakStatement {k : Kx} {nm : String} (hk : Fok k code 9 RL ret nm 1312 601000 7293000) (hNc : NcK k) (hfl : (kg k).1.stackTraces = false) {b M : Nat} {xs : Nat → Int32} (hsc : ScK k b M xs) {i : Int32} (hv1 : vp_in (i + 1) M) {I : XS → XS → Prop} (hcg : Cong I) (hMK : MKs I) (hA : AgT I code2 cvI (fun E => E = "java/lang/IndexOutOfBoundsException" ∨ E = "java/lang/IllegalStateException") (f_X8_breakStatement (xs (i + 1).toNatClampNeg)) (f_X10_breakStatement (xs (i + 1).toNatClampNeg))) {a : Nat → Nat} {x : XS} {cells slots : Nat} (hI : I x (pul 49 x)) (hrm : cells + 30 ≤ 601000 ∧ slots + 3000 ≤ 7293000)
    (kk : ∀ (a : Nat → Nat) (x : XS), I x (pul 49 x) → Wx k (cells + 30) (slots + 3000) LL a x 1875 [(0, .ref b), (1, .ref (a 0)), (2, .ref (a 49)), (3, .ref (a 48)), (4, .int i)] []) : Wx k cells slots LL a x 1470 [(0, .ref b), (1, .ref (a 0)), (2, .ref (a 49)), (3, .ref (a 48)), (4, .int i)] [] := by
  rcases hA x (pul 49 x) hI with ⟨E, x1, w, hu, hw, hth, hes, hI1⟩ | ⟨v, x1, w, hu, hw, hth, hcv, hI1⟩
  · refine xaload_n hk dL_law_1470 rfl ?_
    refine xaload_n hk dL_law_1471 rfl ?_
    refine xiload hk dL_law_1472 rfl ?_
    refine xiconst (v := 1) hk dL_law_1474 (by decide) ?_
    refine xiadd hk dL_law_1475 ?_
    refine xsld hk hsc dL_law_1476 hv1 ?_
    refine xaload_n hk dL_law_1477 rfl ?_
    refine xcallSWO 0 sub_FO pa0 px0 hk hNc (w_breakStatement hfl hu (fun E x h => by cases h; exact hes) (fun v x h => by cases h)) cw_breakStatement kL_209 dL_law_1478 rfl rfl (by decide) ⟨by omega, by omega⟩ (Nat.le_of_ble_eq_true rfl) ?_
    rintro _ x9 hw9
    obtain ⟨rfl, rfl⟩ := hw9
    rw [show LFO.length = 49 from rfl]
    refine xistore hk dL_law_1481 (by decide) ?_
    refine xaload_n hk dL_law_1483 rfl ?_
    refine xaload_n hk dL_law_1484 rfl ?_
    refine xiload hk dL_law_1485 rfl ?_
    refine xiconst (v := 1) hk dL_law_1487 (by decide) ?_
    refine xiadd hk dL_law_1488 ?_
    refine xsld hk hsc dL_law_1489 hv1 ?_
    refine xcallVO 49 sub_M rfl (pul49 (by decide)) hk (c_X10_breakStatement hw) bX10_breakStatement kL_211 dL_law_1490 rfl ⟨_, _, _, _, rfl, rfl⟩ rfl (by decide) ⟨by omega, by omega⟩ (Nat.le_of_ble_eq_true rfl) (det ?_)
    rw [show LM.length = 21 from rfl]
    refine xistore hk dL_law_1493 (by decide) ?_
    refine xaload_n hk dL_law_1495 rfl ?_
    refine xcallVO 49 sub_M rfl rfl hk c_X10_thrown bX10_thrown kL_103 dL_law_1496 rfl ⟨_, _, _, _, rfl, rfl⟩ rfl (by decide) ⟨by omega, by omega⟩ (Nat.le_of_ble_eq_true rfl) (det ?_)
    rw [show LM.length = 21 from rfl, xmix_self, thr_at, hth]
    refine xiload hk dL_law_1499 rfl ?_
    refine xicmp_eq hk 1506 dL_law_1501 (by decide) (fun _ => ?_) (fun hne => absurd rfl hne)
    refine xiload hk dL_law_1506 rfl ?_
    refine xif_ne hk 1523 dL_law_1508 (by decide) (fun _ => ?_) (fun hz => absurd hz (code2_ne _))
    refine xgoto hk 1875 dL_law_1523 (by decide) ?_
    refine xsub [(0, .ref b), (1, .ref (a 0)), (2, .ref (a 49)), (3, .ref (a 48)), (4, .int i)] rfl ?_
    exact xwiden (by omega) (by omega) (kk a _ (hcg hI1 (cg_lawF mix48 ⟨by decide, by decide⟩) cg_lawM))
  · refine xaload_n hk dL_law_1470 rfl ?_
    refine xaload_n hk dL_law_1471 rfl ?_
    refine xiload hk dL_law_1472 rfl ?_
    refine xiconst (v := 1) hk dL_law_1474 (by decide) ?_
    refine xiadd hk dL_law_1475 ?_
    refine xsld hk hsc dL_law_1476 hv1 ?_
    refine xaload_n hk dL_law_1477 rfl ?_
    refine xcallSWO 0 sub_FO pa0 px0 hk hNc (w_breakStatement hfl hu (fun E x h => by cases h) (fun v x h => by cases h; exact ⟨_, rfl⟩)) cw_breakStatement kL_209 dL_law_1478 rfl rfl (by decide) ⟨by omega, by omega⟩ (Nat.le_of_ble_eq_true rfl) ?_
    rintro _ x9 hw9
    obtain ⟨rfl, rfl⟩ := hw9
    rw [show LFO.length = 49 from rfl]
    refine xistore hk dL_law_1481 (by decide) ?_
    refine xaload_n hk dL_law_1483 rfl ?_
    refine xaload_n hk dL_law_1484 rfl ?_
    refine xiload hk dL_law_1485 rfl ?_
    refine xiconst (v := 1) hk dL_law_1487 (by decide) ?_
    refine xiadd hk dL_law_1488 ?_
    refine xsld hk hsc dL_law_1489 hv1 ?_
    refine xcallVO 49 sub_M rfl (pul49 (by decide)) hk (c_X10_breakStatement hw) bX10_breakStatement kL_211 dL_law_1490 rfl ⟨_, _, _, _, rfl, rfl⟩ rfl (by decide) ⟨by omega, by omega⟩ (Nat.le_of_ble_eq_true rfl) (det ?_)
    rw [show LM.length = 21 from rfl]
    refine xistore hk dL_law_1493 (by decide) ?_
    refine xaload_n hk dL_law_1495 rfl ?_
    refine xcallVO 49 sub_M rfl rfl hk c_X10_thrown bX10_thrown kL_103 dL_law_1496 rfl ⟨_, _, _, _, rfl, rfl⟩ rfl (by decide) ⟨by omega, by omega⟩ (Nat.le_of_ble_eq_true rfl) (det ?_)
    rw [show LM.length = 21 from rfl, xmix_self, thr_at, hth]
    refine xiload hk dL_law_1499 rfl ?_
    refine xicmp_eq hk 1506 dL_law_1501 (by decide) (fun _ => ?_) (fun hne => absurd rfl hne)
    refine xiload hk dL_law_1506 rfl ?_
    refine xif_ne hk 1523 dL_law_1508 (by decide) (fun hz => absurd rfl hz) (fun _ => ?_)
    refine xaload_n hk dL_law_1511 rfl ?_
    refine xiconst (v := 0) hk dL_law_1512 (by decide) ?_
    refine xlald hk dL_law_1513 rfl (inB_v (by decide)) ?_
    rw [show (0 : Int32).toNatClampNeg = 0 from rfl, out_at, hcv]
    refine xiload hk dL_law_1514 rfl ?_
    refine xi2l hk dL_law_1516 ?_
    refine xlcmp hk dL_law_1517 ?_
    refine xif_eq hk 1523 dL_law_1518 (by decide) (fun _ => ?_) (fun hz => absurd (lg_self _) hz)
    refine xgoto hk 1875 dL_law_1523 (by decide) ?_
    refine xsub [(0, .ref b), (1, .ref (a 0)), (2, .ref (a 49)), (3, .ref (a 48)), (4, .int i)] rfl ?_
    exact xwiden (by omega) (by omega) (kk a _ (hcg hI1 (cg_lawF mix48o ⟨by decide, by decide⟩) cg_lawM))
theorem cw_renewStatement : CBw yL_renewStatement cL_renewStatement 4 (some .int) [(0, 9, 12, 24), (0, 9, 15, 13)] 3 := ⟨gw_mem 1081 (by decide +kernel) (by decide +kernel), gw_mem 0 (by decide +kernel) (by decide +kernel), gw_mem 1080 (by decide +kernel) (by decide +kernel), by decide +kernel, by decide⟩
set_option maxHeartbeats 4000000 in
set_option maxRecDepth 100000 in
theorem law_renewStatement {k : Kx} {nm : String} (hk : Fok k code 9 RL ret nm 1312 601000 7293000) (hNc : NcK k) (hfl : (kg k).1.stackTraces = false) {b M : Nat} {xs : Nat → Int32} (hsc : ScK k b M xs) {i : Int32} (hv1 : vp_in (i + 1) M) {I : XS → XS → Prop} (hcg : Cong I) (hMK : MKs I) (hA : AgT I code2 cvI (fun E => E = "java/lang/IndexOutOfBoundsException" ∨ E = "java/lang/IllegalStateException") (f_X8_renewStatement (xs (i + 1).toNatClampNeg)) (f_X10_renewStatement (xs (i + 1).toNatClampNeg))) {a : Nat → Nat} {x : XS} {cells slots : Nat} (hI : I x (pul 49 x)) (hrm : cells + 30 ≤ 601000 ∧ slots + 3000 ≤ 7293000)
    (kk : ∀ (a : Nat → Nat) (x : XS), I x (pul 49 x) → Wx k (cells + 30) (slots + 3000) LL a x 1875 [(0, .ref b), (1, .ref (a 0)), (2, .ref (a 49)), (3, .ref (a 48)), (4, .int i)] []) : Wx k cells slots LL a x 1526 [(0, .ref b), (1, .ref (a 0)), (2, .ref (a 49)), (3, .ref (a 48)), (4, .int i)] [] := by
  rcases hA x (pul 49 x) hI with ⟨E, x1, w, hu, hw, hth, hes, hI1⟩ | ⟨v, x1, w, hu, hw, hth, hcv, hI1⟩
  · refine xaload_n hk dL_law_1526 rfl ?_
    refine xaload_n hk dL_law_1527 rfl ?_
    refine xiload hk dL_law_1528 rfl ?_
    refine xiconst (v := 1) hk dL_law_1530 (by decide) ?_
    refine xiadd hk dL_law_1531 ?_
    refine xsld hk hsc dL_law_1532 hv1 ?_
    refine xaload_n hk dL_law_1533 rfl ?_
    refine xcallSWO 0 sub_FO pa0 px0 hk hNc (w_renewStatement hfl hu (fun E x h => by cases h; exact hes) (fun v x h => by cases h)) cw_renewStatement kL_212 dL_law_1534 rfl rfl (by decide) ⟨by omega, by omega⟩ (Nat.le_of_ble_eq_true rfl) ?_
    rintro _ x9 hw9
    obtain ⟨rfl, rfl⟩ := hw9
    rw [show LFO.length = 49 from rfl]
    refine xistore hk dL_law_1537 (by decide) ?_
    refine xaload_n hk dL_law_1539 rfl ?_
    refine xaload_n hk dL_law_1540 rfl ?_
    refine xiload hk dL_law_1541 rfl ?_
    refine xiconst (v := 1) hk dL_law_1543 (by decide) ?_
    refine xiadd hk dL_law_1544 ?_
    refine xsld hk hsc dL_law_1545 hv1 ?_
    refine xcallVO 49 sub_M rfl (pul49 (by decide)) hk (c_X10_renewStatement hw) bX10_renewStatement kL_214 dL_law_1546 rfl ⟨_, _, _, _, rfl, rfl⟩ rfl (by decide) ⟨by omega, by omega⟩ (Nat.le_of_ble_eq_true rfl) (det ?_)
    rw [show LM.length = 21 from rfl]
    refine xistore hk dL_law_1549 (by decide) ?_
    refine xaload_n hk dL_law_1551 rfl ?_
    refine xcallVO 49 sub_M rfl rfl hk c_X10_thrown bX10_thrown kL_103 dL_law_1552 rfl ⟨_, _, _, _, rfl, rfl⟩ rfl (by decide) ⟨by omega, by omega⟩ (Nat.le_of_ble_eq_true rfl) (det ?_)
    rw [show LM.length = 21 from rfl, xmix_self, thr_at, hth]
    refine xiload hk dL_law_1555 rfl ?_
    refine xicmp_eq hk 1562 dL_law_1557 (by decide) (fun _ => ?_) (fun hne => absurd rfl hne)
    refine xiload hk dL_law_1562 rfl ?_
    refine xif_ne hk 1579 dL_law_1564 (by decide) (fun _ => ?_) (fun hz => absurd hz (code2_ne _))
    refine xgoto hk 1875 dL_law_1579 (by decide) ?_
    refine xsub [(0, .ref b), (1, .ref (a 0)), (2, .ref (a 49)), (3, .ref (a 48)), (4, .int i)] rfl ?_
    exact xwiden (by omega) (by omega) (kk a _ (hcg hI1 (cg_lawF mix48 ⟨by decide, by decide⟩) cg_lawM))
  · refine xaload_n hk dL_law_1526 rfl ?_
    refine xaload_n hk dL_law_1527 rfl ?_
    refine xiload hk dL_law_1528 rfl ?_
    refine xiconst (v := 1) hk dL_law_1530 (by decide) ?_
    refine xiadd hk dL_law_1531 ?_
    refine xsld hk hsc dL_law_1532 hv1 ?_
    refine xaload_n hk dL_law_1533 rfl ?_
    refine xcallSWO 0 sub_FO pa0 px0 hk hNc (w_renewStatement hfl hu (fun E x h => by cases h) (fun v x h => by cases h; exact ⟨_, rfl⟩)) cw_renewStatement kL_212 dL_law_1534 rfl rfl (by decide) ⟨by omega, by omega⟩ (Nat.le_of_ble_eq_true rfl) ?_
    rintro _ x9 hw9
    obtain ⟨rfl, rfl⟩ := hw9
    rw [show LFO.length = 49 from rfl]
    refine xistore hk dL_law_1537 (by decide) ?_
    refine xaload_n hk dL_law_1539 rfl ?_
    refine xaload_n hk dL_law_1540 rfl ?_
    refine xiload hk dL_law_1541 rfl ?_
    refine xiconst (v := 1) hk dL_law_1543 (by decide) ?_
    refine xiadd hk dL_law_1544 ?_
    refine xsld hk hsc dL_law_1545 hv1 ?_
    refine xcallVO 49 sub_M rfl (pul49 (by decide)) hk (c_X10_renewStatement hw) bX10_renewStatement kL_214 dL_law_1546 rfl ⟨_, _, _, _, rfl, rfl⟩ rfl (by decide) ⟨by omega, by omega⟩ (Nat.le_of_ble_eq_true rfl) (det ?_)
    rw [show LM.length = 21 from rfl]
    refine xistore hk dL_law_1549 (by decide) ?_
    refine xaload_n hk dL_law_1551 rfl ?_
    refine xcallVO 49 sub_M rfl rfl hk c_X10_thrown bX10_thrown kL_103 dL_law_1552 rfl ⟨_, _, _, _, rfl, rfl⟩ rfl (by decide) ⟨by omega, by omega⟩ (Nat.le_of_ble_eq_true rfl) (det ?_)
    rw [show LM.length = 21 from rfl, xmix_self, thr_at, hth]
    refine xiload hk dL_law_1555 rfl ?_
    refine xicmp_eq hk 1562 dL_law_1557 (by decide) (fun _ => ?_) (fun hne => absurd rfl hne)
    refine xiload hk dL_law_1562 rfl ?_
    refine xif_ne hk 1579 dL_law_1564 (by decide) (fun hz => absurd rfl hz) (fun _ => ?_)
    refine xaload_n hk dL_law_1567 rfl ?_
    refine xiconst (v := 0) hk dL_law_1568 (by decide) ?_
    refine xlald hk dL_law_1569 rfl (inB_v (by decide)) ?_
    rw [show (0 : Int32).toNatClampNeg = 0 from rfl, out_at, hcv]
    refine xiload hk dL_law_1570 rfl ?_
    refine xi2l hk dL_law_1572 ?_
    refine xlcmp hk dL_law_1573 ?_
    refine xif_eq hk 1579 dL_law_1574 (by decide) (fun _ => ?_) (fun hz => absurd (lg_self _) hz)
    refine xgoto hk 1875 dL_law_1579 (by decide) ?_
    refine xsub [(0, .ref b), (1, .ref (a 0)), (2, .ref (a 49)), (3, .ref (a 48)), (4, .int i)] rfl ?_
    exact xwiden (by omega) (by omega) (kk a _ (hcg hI1 (cg_lawF mix48o ⟨by decide, by decide⟩) cg_lawM))
theorem cw_passDays : CBw yL_passDays cL_passDays 4 (some .int) [(0, 9, 12, 19)] 3 := ⟨gw_mem 1090 (by decide +kernel) (by decide +kernel), gw_mem 0 (by decide +kernel) (by decide +kernel), gw_mem 1089 (by decide +kernel) (by decide +kernel), by decide +kernel, by decide⟩
set_option maxHeartbeats 4000000 in
set_option maxRecDepth 100000 in
theorem law_passDays {k : Kx} {nm : String} (hk : Fok k code 9 RL ret nm 1312 601000 7293000) (hNc : NcK k) (hfl : (kg k).1.stackTraces = false) {b M : Nat} {xs : Nat → Int32} (hsc : ScK k b M xs) {i : Int32} (hv1 : vp_in (i + 1) M) {I : XS → XS → Prop} (hcg : Cong I) (hMK : MKs I) (hA : AgT I code1 cvI (fun E => E = "java/lang/IllegalArgumentException") (f_X8_passDays (xs (i + 1).toNatClampNeg)) (f_X10_passDays (xs (i + 1).toNatClampNeg))) {a : Nat → Nat} {x : XS} {cells slots : Nat} (hI : I x (pul 49 x)) (hrm : cells + 30 ≤ 601000 ∧ slots + 3000 ≤ 7293000)
    (kk : ∀ (a : Nat → Nat) (x : XS), I x (pul 49 x) → Wx k (cells + 30) (slots + 3000) LL a x 1875 [(0, .ref b), (1, .ref (a 0)), (2, .ref (a 49)), (3, .ref (a 48)), (4, .int i)] []) : Wx k cells slots LL a x 1582 [(0, .ref b), (1, .ref (a 0)), (2, .ref (a 49)), (3, .ref (a 48)), (4, .int i)] [] := by
  rcases hA x (pul 49 x) hI with ⟨E, x1, w, hu, hw, hth, hes, hI1⟩ | ⟨v, x1, w, hu, hw, hth, hcv, hI1⟩
  · refine xaload_n hk dL_law_1582 rfl ?_
    refine xaload_n hk dL_law_1583 rfl ?_
    refine xiload hk dL_law_1584 rfl ?_
    refine xiconst (v := 1) hk dL_law_1586 (by decide) ?_
    refine xiadd hk dL_law_1587 ?_
    refine xsld hk hsc dL_law_1588 hv1 ?_
    refine xaload_n hk dL_law_1589 rfl ?_
    refine xcallSWO 0 sub_FO pa0 px0 hk hNc (w_passDays hfl hu (fun E x h => by cases h; exact hes) (fun v x h => by cases h)) cw_passDays kL_215 dL_law_1590 rfl rfl (by decide) ⟨by omega, by omega⟩ (Nat.le_of_ble_eq_true rfl) ?_
    rintro _ x9 hw9
    obtain ⟨rfl, rfl⟩ := hw9
    rw [show LFO.length = 49 from rfl]
    refine xistore hk dL_law_1593 (by decide) ?_
    refine xaload_n hk dL_law_1595 rfl ?_
    refine xaload_n hk dL_law_1596 rfl ?_
    refine xiload hk dL_law_1597 rfl ?_
    refine xiconst (v := 1) hk dL_law_1599 (by decide) ?_
    refine xiadd hk dL_law_1600 ?_
    refine xsld hk hsc dL_law_1601 hv1 ?_
    refine xcallVO 49 sub_M rfl (pul49 (by decide)) hk (c_X10_passDays hw) bX10_passDays kL_217 dL_law_1602 rfl ⟨_, _, _, _, rfl, rfl⟩ rfl (by decide) ⟨by omega, by omega⟩ (Nat.le_of_ble_eq_true rfl) (det ?_)
    rw [show LM.length = 21 from rfl]
    refine xistore hk dL_law_1605 (by decide) ?_
    refine xaload_n hk dL_law_1607 rfl ?_
    refine xcallVO 49 sub_M rfl rfl hk c_X10_thrown bX10_thrown kL_103 dL_law_1608 rfl ⟨_, _, _, _, rfl, rfl⟩ rfl (by decide) ⟨by omega, by omega⟩ (Nat.le_of_ble_eq_true rfl) (det ?_)
    rw [show LM.length = 21 from rfl, xmix_self, thr_at, hth]
    refine xiload hk dL_law_1611 rfl ?_
    refine xicmp_eq hk 1618 dL_law_1613 (by decide) (fun _ => ?_) (fun hne => absurd rfl hne)
    refine xiload hk dL_law_1618 rfl ?_
    refine xif_ne hk 1635 dL_law_1620 (by decide) (fun _ => ?_) (fun hz => absurd hz (code1_ne _))
    refine xgoto hk 1875 dL_law_1635 (by decide) ?_
    refine xsub [(0, .ref b), (1, .ref (a 0)), (2, .ref (a 49)), (3, .ref (a 48)), (4, .int i)] rfl ?_
    exact xwiden (by omega) (by omega) (kk a _ (hcg hI1 (cg_lawF mix48 ⟨by decide, by decide⟩) cg_lawM))
  · refine xaload_n hk dL_law_1582 rfl ?_
    refine xaload_n hk dL_law_1583 rfl ?_
    refine xiload hk dL_law_1584 rfl ?_
    refine xiconst (v := 1) hk dL_law_1586 (by decide) ?_
    refine xiadd hk dL_law_1587 ?_
    refine xsld hk hsc dL_law_1588 hv1 ?_
    refine xaload_n hk dL_law_1589 rfl ?_
    refine xcallSWO 0 sub_FO pa0 px0 hk hNc (w_passDays hfl hu (fun E x h => by cases h) (fun v x h => by cases h; exact ⟨_, rfl⟩)) cw_passDays kL_215 dL_law_1590 rfl rfl (by decide) ⟨by omega, by omega⟩ (Nat.le_of_ble_eq_true rfl) ?_
    rintro _ x9 hw9
    obtain ⟨rfl, rfl⟩ := hw9
    rw [show LFO.length = 49 from rfl]
    refine xistore hk dL_law_1593 (by decide) ?_
    refine xaload_n hk dL_law_1595 rfl ?_
    refine xaload_n hk dL_law_1596 rfl ?_
    refine xiload hk dL_law_1597 rfl ?_
    refine xiconst (v := 1) hk dL_law_1599 (by decide) ?_
    refine xiadd hk dL_law_1600 ?_
    refine xsld hk hsc dL_law_1601 hv1 ?_
    refine xcallVO 49 sub_M rfl (pul49 (by decide)) hk (c_X10_passDays hw) bX10_passDays kL_217 dL_law_1602 rfl ⟨_, _, _, _, rfl, rfl⟩ rfl (by decide) ⟨by omega, by omega⟩ (Nat.le_of_ble_eq_true rfl) (det ?_)
    rw [show LM.length = 21 from rfl]
    refine xistore hk dL_law_1605 (by decide) ?_
    refine xaload_n hk dL_law_1607 rfl ?_
    refine xcallVO 49 sub_M rfl rfl hk c_X10_thrown bX10_thrown kL_103 dL_law_1608 rfl ⟨_, _, _, _, rfl, rfl⟩ rfl (by decide) ⟨by omega, by omega⟩ (Nat.le_of_ble_eq_true rfl) (det ?_)
    rw [show LM.length = 21 from rfl, xmix_self, thr_at, hth]
    refine xiload hk dL_law_1611 rfl ?_
    refine xicmp_eq hk 1618 dL_law_1613 (by decide) (fun _ => ?_) (fun hne => absurd rfl hne)
    refine xiload hk dL_law_1618 rfl ?_
    refine xif_ne hk 1635 dL_law_1620 (by decide) (fun hz => absurd rfl hz) (fun _ => ?_)
    refine xaload_n hk dL_law_1623 rfl ?_
    refine xiconst (v := 0) hk dL_law_1624 (by decide) ?_
    refine xlald hk dL_law_1625 rfl (inB_v (by decide)) ?_
    rw [show (0 : Int32).toNatClampNeg = 0 from rfl, out_at, hcv]
    refine xiload hk dL_law_1626 rfl ?_
    refine xi2l hk dL_law_1628 ?_
    refine xlcmp hk dL_law_1629 ?_
    refine xif_eq hk 1635 dL_law_1630 (by decide) (fun _ => ?_) (fun hz => absurd (lg_self _) hz)
    refine xgoto hk 1875 dL_law_1635 (by decide) ?_
    refine xsub [(0, .ref b), (1, .ref (a 0)), (2, .ref (a 49)), (3, .ref (a 48)), (4, .int i)] rfl ?_
    exact xwiden (by omega) (by omega) (kk a _ (hcg hI1 (cg_lawF mix48o ⟨by decide, by decide⟩) cg_lawM))
theorem cw_standingAfter : CBw yL_standingAfter cL_standingAfter 4 (some .int) [(0, 9, 12, 19)] 3 := ⟨gw_mem 1102 (by decide +kernel) (by decide +kernel), gw_mem 0 (by decide +kernel) (by decide +kernel), gw_mem 1101 (by decide +kernel) (by decide +kernel), by decide +kernel, by decide⟩
set_option maxHeartbeats 4000000 in
set_option maxRecDepth 100000 in
theorem law_standingAfter {k : Kx} {nm : String} (hk : Fok k code 9 RL ret nm 1312 601000 7293000) (hNc : NcK k) (hfl : (kg k).1.stackTraces = false) {b M : Nat} {xs : Nat → Int32} (hsc : ScK k b M xs) {i : Int32} (hv1 : vp_in (i + 1) M) {I : XS → XS → Prop} (hcg : Cong I) (hMK : MKs I) (hA : AgT I code1 cvI (fun E => E = "java/lang/IllegalArgumentException") (f_X8_standingAfter (xs (i + 1).toNatClampNeg)) (f_X10_standingAfter (xs (i + 1).toNatClampNeg))) {a : Nat → Nat} {x : XS} {cells slots : Nat} (hI : I x (pul 49 x)) (hrm : cells + 30 ≤ 601000 ∧ slots + 3000 ≤ 7293000)
    (kk : ∀ (a : Nat → Nat) (x : XS), I x (pul 49 x) → Wx k (cells + 30) (slots + 3000) LL a x 1875 [(0, .ref b), (1, .ref (a 0)), (2, .ref (a 49)), (3, .ref (a 48)), (4, .int i)] []) : Wx k cells slots LL a x 1638 [(0, .ref b), (1, .ref (a 0)), (2, .ref (a 49)), (3, .ref (a 48)), (4, .int i)] [] := by
  rcases hA x (pul 49 x) hI with ⟨E, x1, w, hu, hw, hth, hes, hI1⟩ | ⟨v, x1, w, hu, hw, hth, hcv, hI1⟩
  · refine xaload_n hk dL_law_1638 rfl ?_
    refine xaload_n hk dL_law_1639 rfl ?_
    refine xiload hk dL_law_1640 rfl ?_
    refine xiconst (v := 1) hk dL_law_1642 (by decide) ?_
    refine xiadd hk dL_law_1643 ?_
    refine xsld hk hsc dL_law_1644 hv1 ?_
    refine xaload_n hk dL_law_1645 rfl ?_
    refine xcallSWO 0 sub_FO pa0 px0 hk hNc (w_standingAfter hfl hu (fun E x h => by cases h; exact hes) (fun v x h => by cases h)) cw_standingAfter kL_218 dL_law_1646 rfl rfl (by decide) ⟨by omega, by omega⟩ (Nat.le_of_ble_eq_true rfl) ?_
    rintro _ x9 hw9
    obtain ⟨rfl, rfl⟩ := hw9
    rw [show LFO.length = 49 from rfl]
    refine xistore hk dL_law_1649 (by decide) ?_
    refine xaload_n hk dL_law_1651 rfl ?_
    refine xaload_n hk dL_law_1652 rfl ?_
    refine xiload hk dL_law_1653 rfl ?_
    refine xiconst (v := 1) hk dL_law_1655 (by decide) ?_
    refine xiadd hk dL_law_1656 ?_
    refine xsld hk hsc dL_law_1657 hv1 ?_
    refine xcallVO 49 sub_M rfl (pul49 (by decide)) hk (c_X10_standingAfter hw) bX10_standingAfter kL_220 dL_law_1658 rfl ⟨_, _, _, _, rfl, rfl⟩ rfl (by decide) ⟨by omega, by omega⟩ (Nat.le_of_ble_eq_true rfl) (det ?_)
    rw [show LM.length = 21 from rfl]
    refine xistore hk dL_law_1661 (by decide) ?_
    refine xaload_n hk dL_law_1663 rfl ?_
    refine xcallVO 49 sub_M rfl rfl hk c_X10_thrown bX10_thrown kL_103 dL_law_1664 rfl ⟨_, _, _, _, rfl, rfl⟩ rfl (by decide) ⟨by omega, by omega⟩ (Nat.le_of_ble_eq_true rfl) (det ?_)
    rw [show LM.length = 21 from rfl, xmix_self, thr_at, hth]
    refine xiload hk dL_law_1667 rfl ?_
    refine xicmp_eq hk 1674 dL_law_1669 (by decide) (fun _ => ?_) (fun hne => absurd rfl hne)
    refine xiload hk dL_law_1674 rfl ?_
    refine xif_ne hk 1691 dL_law_1676 (by decide) (fun _ => ?_) (fun hz => absurd hz (code1_ne _))
    refine xgoto hk 1875 dL_law_1691 (by decide) ?_
    refine xsub [(0, .ref b), (1, .ref (a 0)), (2, .ref (a 49)), (3, .ref (a 48)), (4, .int i)] rfl ?_
    exact xwiden (by omega) (by omega) (kk a _ (hcg hI1 (cg_lawF mix48 ⟨by decide, by decide⟩) cg_lawM))
  · refine xaload_n hk dL_law_1638 rfl ?_
    refine xaload_n hk dL_law_1639 rfl ?_
    refine xiload hk dL_law_1640 rfl ?_
    refine xiconst (v := 1) hk dL_law_1642 (by decide) ?_
    refine xiadd hk dL_law_1643 ?_
    refine xsld hk hsc dL_law_1644 hv1 ?_
    refine xaload_n hk dL_law_1645 rfl ?_
    refine xcallSWO 0 sub_FO pa0 px0 hk hNc (w_standingAfter hfl hu (fun E x h => by cases h) (fun v x h => by cases h; exact ⟨_, rfl⟩)) cw_standingAfter kL_218 dL_law_1646 rfl rfl (by decide) ⟨by omega, by omega⟩ (Nat.le_of_ble_eq_true rfl) ?_
    rintro _ x9 hw9
    obtain ⟨rfl, rfl⟩ := hw9
    rw [show LFO.length = 49 from rfl]
    refine xistore hk dL_law_1649 (by decide) ?_
    refine xaload_n hk dL_law_1651 rfl ?_
    refine xaload_n hk dL_law_1652 rfl ?_
    refine xiload hk dL_law_1653 rfl ?_
    refine xiconst (v := 1) hk dL_law_1655 (by decide) ?_
    refine xiadd hk dL_law_1656 ?_
    refine xsld hk hsc dL_law_1657 hv1 ?_
    refine xcallVO 49 sub_M rfl (pul49 (by decide)) hk (c_X10_standingAfter hw) bX10_standingAfter kL_220 dL_law_1658 rfl ⟨_, _, _, _, rfl, rfl⟩ rfl (by decide) ⟨by omega, by omega⟩ (Nat.le_of_ble_eq_true rfl) (det ?_)
    rw [show LM.length = 21 from rfl]
    refine xistore hk dL_law_1661 (by decide) ?_
    refine xaload_n hk dL_law_1663 rfl ?_
    refine xcallVO 49 sub_M rfl rfl hk c_X10_thrown bX10_thrown kL_103 dL_law_1664 rfl ⟨_, _, _, _, rfl, rfl⟩ rfl (by decide) ⟨by omega, by omega⟩ (Nat.le_of_ble_eq_true rfl) (det ?_)
    rw [show LM.length = 21 from rfl, xmix_self, thr_at, hth]
    refine xiload hk dL_law_1667 rfl ?_
    refine xicmp_eq hk 1674 dL_law_1669 (by decide) (fun _ => ?_) (fun hne => absurd rfl hne)
    refine xiload hk dL_law_1674 rfl ?_
    refine xif_ne hk 1691 dL_law_1676 (by decide) (fun hz => absurd rfl hz) (fun _ => ?_)
    refine xaload_n hk dL_law_1679 rfl ?_
    refine xiconst (v := 0) hk dL_law_1680 (by decide) ?_
    refine xlald hk dL_law_1681 rfl (inB_v (by decide)) ?_
    rw [show (0 : Int32).toNatClampNeg = 0 from rfl, out_at, hcv]
    refine xiload hk dL_law_1682 rfl ?_
    refine xi2l hk dL_law_1684 ?_
    refine xlcmp hk dL_law_1685 ?_
    refine xif_eq hk 1691 dL_law_1686 (by decide) (fun _ => ?_) (fun hz => absurd (lg_self _) hz)
    refine xgoto hk 1875 dL_law_1691 (by decide) ?_
    refine xsub [(0, .ref b), (1, .ref (a 0)), (2, .ref (a 49)), (3, .ref (a 48)), (4, .int i)] rfl ?_
    exact xwiden (by omega) (by omega) (kk a _ (hcg hI1 (cg_lawF mix48o ⟨by decide, by decide⟩) cg_lawM))
theorem cw_peacesAfter : CBw yL_peacesAfter cL_peacesAfter 4 (some .int) [(0, 9, 12, 19)] 3 := ⟨gw_mem 1109 (by decide +kernel) (by decide +kernel), gw_mem 0 (by decide +kernel) (by decide +kernel), gw_mem 1108 (by decide +kernel) (by decide +kernel), by decide +kernel, by decide⟩
set_option maxHeartbeats 4000000 in
set_option maxRecDepth 100000 in
theorem law_peacesAfter {k : Kx} {nm : String} (hk : Fok k code 9 RL ret nm 1312 601000 7293000) (hNc : NcK k) (hfl : (kg k).1.stackTraces = false) {b M : Nat} {xs : Nat → Int32} (hsc : ScK k b M xs) {i : Int32} (hv1 : vp_in (i + 1) M) {I : XS → XS → Prop} (hcg : Cong I) (hMK : MKs I) (hA : AgT I code1 cvI (fun E => E = "java/lang/IllegalArgumentException") (f_X8_peacesAfter (xs (i + 1).toNatClampNeg)) (f_X10_peacesAfter (xs (i + 1).toNatClampNeg))) {a : Nat → Nat} {x : XS} {cells slots : Nat} (hI : I x (pul 49 x)) (hrm : cells + 30 ≤ 601000 ∧ slots + 3000 ≤ 7293000)
    (kk : ∀ (a : Nat → Nat) (x : XS), I x (pul 49 x) → Wx k (cells + 30) (slots + 3000) LL a x 1875 [(0, .ref b), (1, .ref (a 0)), (2, .ref (a 49)), (3, .ref (a 48)), (4, .int i)] []) : Wx k cells slots LL a x 1694 [(0, .ref b), (1, .ref (a 0)), (2, .ref (a 49)), (3, .ref (a 48)), (4, .int i)] [] := by
  rcases hA x (pul 49 x) hI with ⟨E, x1, w, hu, hw, hth, hes, hI1⟩ | ⟨v, x1, w, hu, hw, hth, hcv, hI1⟩
  · refine xaload_n hk dL_law_1694 rfl ?_
    refine xaload_n hk dL_law_1695 rfl ?_
    refine xiload hk dL_law_1696 rfl ?_
    refine xiconst (v := 1) hk dL_law_1698 (by decide) ?_
    refine xiadd hk dL_law_1699 ?_
    refine xsld hk hsc dL_law_1700 hv1 ?_
    refine xaload_n hk dL_law_1701 rfl ?_
    refine xcallSWO 0 sub_FO pa0 px0 hk hNc (w_peacesAfter hfl hu (fun E x h => by cases h; exact hes) (fun v x h => by cases h)) cw_peacesAfter kL_221 dL_law_1702 rfl rfl (by decide) ⟨by omega, by omega⟩ (Nat.le_of_ble_eq_true rfl) ?_
    rintro _ x9 hw9
    obtain ⟨rfl, rfl⟩ := hw9
    rw [show LFO.length = 49 from rfl]
    refine xistore hk dL_law_1705 (by decide) ?_
    refine xaload_n hk dL_law_1707 rfl ?_
    refine xaload_n hk dL_law_1708 rfl ?_
    refine xiload hk dL_law_1709 rfl ?_
    refine xiconst (v := 1) hk dL_law_1711 (by decide) ?_
    refine xiadd hk dL_law_1712 ?_
    refine xsld hk hsc dL_law_1713 hv1 ?_
    refine xcallVO 49 sub_M rfl (pul49 (by decide)) hk (c_X10_peacesAfter hw) bX10_peacesAfter kL_223 dL_law_1714 rfl ⟨_, _, _, _, rfl, rfl⟩ rfl (by decide) ⟨by omega, by omega⟩ (Nat.le_of_ble_eq_true rfl) (det ?_)
    rw [show LM.length = 21 from rfl]
    refine xistore hk dL_law_1717 (by decide) ?_
    refine xaload_n hk dL_law_1719 rfl ?_
    refine xcallVO 49 sub_M rfl rfl hk c_X10_thrown bX10_thrown kL_103 dL_law_1720 rfl ⟨_, _, _, _, rfl, rfl⟩ rfl (by decide) ⟨by omega, by omega⟩ (Nat.le_of_ble_eq_true rfl) (det ?_)
    rw [show LM.length = 21 from rfl, xmix_self, thr_at, hth]
    refine xiload hk dL_law_1723 rfl ?_
    refine xicmp_eq hk 1730 dL_law_1725 (by decide) (fun _ => ?_) (fun hne => absurd rfl hne)
    refine xiload hk dL_law_1730 rfl ?_
    refine xif_ne hk 1747 dL_law_1732 (by decide) (fun _ => ?_) (fun hz => absurd hz (code1_ne _))
    refine xgoto hk 1875 dL_law_1747 (by decide) ?_
    refine xsub [(0, .ref b), (1, .ref (a 0)), (2, .ref (a 49)), (3, .ref (a 48)), (4, .int i)] rfl ?_
    exact xwiden (by omega) (by omega) (kk a _ (hcg hI1 (cg_lawF mix48 ⟨by decide, by decide⟩) cg_lawM))
  · refine xaload_n hk dL_law_1694 rfl ?_
    refine xaload_n hk dL_law_1695 rfl ?_
    refine xiload hk dL_law_1696 rfl ?_
    refine xiconst (v := 1) hk dL_law_1698 (by decide) ?_
    refine xiadd hk dL_law_1699 ?_
    refine xsld hk hsc dL_law_1700 hv1 ?_
    refine xaload_n hk dL_law_1701 rfl ?_
    refine xcallSWO 0 sub_FO pa0 px0 hk hNc (w_peacesAfter hfl hu (fun E x h => by cases h) (fun v x h => by cases h; exact ⟨_, rfl⟩)) cw_peacesAfter kL_221 dL_law_1702 rfl rfl (by decide) ⟨by omega, by omega⟩ (Nat.le_of_ble_eq_true rfl) ?_
    rintro _ x9 hw9
    obtain ⟨rfl, rfl⟩ := hw9
    rw [show LFO.length = 49 from rfl]
    refine xistore hk dL_law_1705 (by decide) ?_
    refine xaload_n hk dL_law_1707 rfl ?_
    refine xaload_n hk dL_law_1708 rfl ?_
    refine xiload hk dL_law_1709 rfl ?_
    refine xiconst (v := 1) hk dL_law_1711 (by decide) ?_
    refine xiadd hk dL_law_1712 ?_
    refine xsld hk hsc dL_law_1713 hv1 ?_
    refine xcallVO 49 sub_M rfl (pul49 (by decide)) hk (c_X10_peacesAfter hw) bX10_peacesAfter kL_223 dL_law_1714 rfl ⟨_, _, _, _, rfl, rfl⟩ rfl (by decide) ⟨by omega, by omega⟩ (Nat.le_of_ble_eq_true rfl) (det ?_)
    rw [show LM.length = 21 from rfl]
    refine xistore hk dL_law_1717 (by decide) ?_
    refine xaload_n hk dL_law_1719 rfl ?_
    refine xcallVO 49 sub_M rfl rfl hk c_X10_thrown bX10_thrown kL_103 dL_law_1720 rfl ⟨_, _, _, _, rfl, rfl⟩ rfl (by decide) ⟨by omega, by omega⟩ (Nat.le_of_ble_eq_true rfl) (det ?_)
    rw [show LM.length = 21 from rfl, xmix_self, thr_at, hth]
    refine xiload hk dL_law_1723 rfl ?_
    refine xicmp_eq hk 1730 dL_law_1725 (by decide) (fun _ => ?_) (fun hne => absurd rfl hne)
    refine xiload hk dL_law_1730 rfl ?_
    refine xif_ne hk 1747 dL_law_1732 (by decide) (fun hz => absurd rfl hz) (fun _ => ?_)
    refine xaload_n hk dL_law_1735 rfl ?_
    refine xiconst (v := 0) hk dL_law_1736 (by decide) ?_
    refine xlald hk dL_law_1737 rfl (inB_v (by decide)) ?_
    rw [show (0 : Int32).toNatClampNeg = 0 from rfl, out_at, hcv]
    refine xiload hk dL_law_1738 rfl ?_
    refine xi2l hk dL_law_1740 ?_
    refine xlcmp hk dL_law_1741 ?_
    refine xif_eq hk 1747 dL_law_1742 (by decide) (fun _ => ?_) (fun hz => absurd (lg_self _) hz)
    refine xgoto hk 1875 dL_law_1747 (by decide) ?_
    refine xsub [(0, .ref b), (1, .ref (a 0)), (2, .ref (a 49)), (3, .ref (a 48)), (4, .int i)] rfl ?_
    exact xwiden (by omega) (by omega) (kk a _ (hcg hI1 (cg_lawF mix48o ⟨by decide, by decide⟩) cg_lawM))
set_option maxHeartbeats 4000000 in
set_option maxRecDepth 100000 in
theorem law_daysUntilPeace {k : Kx} {nm : String} (hk : Fok k code 9 RL ret nm 1312 601000 7293000) (hNc : NcK k) (hfl : (kg k).1.stackTraces = false) {b M : Nat} {xs : Nat → Int32} (hsc : ScK k b M xs) {i : Int32}  {I : XS → XS → Prop} (hcg : Cong I) (hMK : MKs I) (hA : AgN I f_X8_daysUntilPeace f_X10_daysUntilPeace) {a : Nat → Nat} {x : XS} {cells slots : Nat} (hI : I x (pul 49 x)) (hrm : cells + 30 ≤ 601000 ∧ slots + 3000 ≤ 7293000)
    (kk : ∀ (a : Nat → Nat) (x : XS), I x (pul 49 x) → Wx k (cells + 30) (slots + 3000) LL a x 1875 [(0, .ref b), (1, .ref (a 0)), (2, .ref (a 49)), (3, .ref (a 48)), (4, .int i)] []) : Wx k cells slots LL a x 1750 [(0, .ref b), (1, .ref (a 0)), (2, .ref (a 49)), (3, .ref (a 48)), (4, .int i)] [] := by
  obtain ⟨v, x1, z1, hu, hw, hI1⟩ := hA x (pul 49 x) hI
  refine xaload_n hk dL_law_1750 rfl ?_
  refine xcallVO 0 sub_F pa0 px0 hk (c_X8_daysUntilPeace hu) bX8_daysUntilPeace kL_224 dL_law_1751 rfl ⟨_, _, _, _, rfl, rfl⟩ rfl (by decide) ⟨by omega, by omega⟩ (Nat.le_of_ble_eq_true rfl) (det ?_)
  rw [show LF.length = 48 from rfl]
  refine xaload_n hk dL_law_1754 rfl ?_
  refine xcallVO 49 sub_M rfl (pul49 (by decide)) hk (c_X10_daysUntilPeace hw) bX10_daysUntilPeace kL_227 dL_law_1755 rfl ⟨_, _, _, _, rfl, rfl⟩ rfl (by decide) ⟨by omega, by omega⟩ (Nat.le_of_ble_eq_true rfl) (det ?_)
  rw [show LM.length = 21 from rfl]
  refine xicmp_eq hk 1875 dL_law_1758 (by decide) (fun _ => ?_) (fun hne => absurd rfl hne)
  refine xsub [(0, .ref b), (1, .ref (a 0)), (2, .ref (a 49)), (3, .ref (a 48)), (4, .int i)] rfl ?_
  exact xwiden (by omega) (by omega) (kk a _ (hcg hI1 (cg_lawF (fun _ _ _ => ⟨rfl, rfl⟩) ⟨by decide, by decide⟩) cg_lawM))
set_option maxHeartbeats 4000000 in
set_option maxRecDepth 100000 in
theorem law_fewestToBreak {k : Kx} {nm : String} (hk : Fok k code 9 RL ret nm 1312 601000 7293000) (hNc : NcK k) (hfl : (kg k).1.stackTraces = false) {b M : Nat} {xs : Nat → Int32} (hsc : ScK k b M xs) {i : Int32}  {I : XS → XS → Prop} (hcg : Cong I) (hMK : MKs I) (hA : AgN I f_X8_fewestToBreak f_X10_fewestToBreak) {a : Nat → Nat} {x : XS} {cells slots : Nat} (hI : I x (pul 49 x)) (hrm : cells + 30 ≤ 601000 ∧ slots + 3000 ≤ 7293000)
    (kk : ∀ (a : Nat → Nat) (x : XS), I x (pul 49 x) → Wx k (cells + 30) (slots + 3000) LL a x 1875 [(0, .ref b), (1, .ref (a 0)), (2, .ref (a 49)), (3, .ref (a 48)), (4, .int i)] []) : Wx k cells slots LL a x 1763 [(0, .ref b), (1, .ref (a 0)), (2, .ref (a 49)), (3, .ref (a 48)), (4, .int i)] [] := by
  obtain ⟨v, x1, z1, hu, hw, hI1⟩ := hA x (pul 49 x) hI
  refine xaload_n hk dL_law_1763 rfl ?_
  refine xcallVO 0 sub_F pa0 px0 hk (c_X8_fewestToBreak hu) bX8_fewestToBreak kL_228 dL_law_1764 rfl ⟨_, _, _, _, rfl, rfl⟩ rfl (by decide) ⟨by omega, by omega⟩ (Nat.le_of_ble_eq_true rfl) (det ?_)
  rw [show LF.length = 48 from rfl]
  refine xaload_n hk dL_law_1767 rfl ?_
  refine xcallVO 49 sub_M rfl (pul49 (by decide)) hk (c_X10_fewestToBreak hw) bX10_fewestToBreak kL_231 dL_law_1768 rfl ⟨_, _, _, _, rfl, rfl⟩ rfl (by decide) ⟨by omega, by omega⟩ (Nat.le_of_ble_eq_true rfl) (det ?_)
  rw [show LM.length = 21 from rfl]
  refine xicmp_eq hk 1875 dL_law_1771 (by decide) (fun _ => ?_) (fun hne => absurd rfl hne)
  refine xsub [(0, .ref b), (1, .ref (a 0)), (2, .ref (a 49)), (3, .ref (a 48)), (4, .int i)] rfl ?_
  exact xwiden (by omega) (by omega) (kk a _ (hcg hI1 (cg_lawF (fun _ _ _ => ⟨rfl, rfl⟩) ⟨by decide, by decide⟩) cg_lawM))
theorem cw_mostTellingOath : CBw yL_mostTellingOath cL_mostTellingOath 3 (some .int) [(0, 8, 11, 13)] 2 := ⟨gw_mem 1116 (by decide +kernel) (by decide +kernel), gw_mem 0 (by decide +kernel) (by decide +kernel), gw_mem 1115 (by decide +kernel) (by decide +kernel), by decide +kernel, by decide⟩
set_option maxHeartbeats 4000000 in
set_option maxRecDepth 100000 in
theorem law_mostTellingOath {k : Kx} {nm : String} (hk : Fok k code 9 RL ret nm 1312 601000 7293000) (hNc : NcK k) (hfl : (kg k).1.stackTraces = false) {b M : Nat} {xs : Nat → Int32} (hsc : ScK k b M xs) {i : Int32}  {I : XS → XS → Prop} (hcg : Cong I) (hMK : MKs I) (hA : AgT I code1 cvI (fun E => E = "java/lang/IllegalStateException") (f_X8_mostTellingOath ) (f_X10_mostTellingOath )) {a : Nat → Nat} {x : XS} {cells slots : Nat} (hI : I x (pul 49 x)) (hrm : cells + 30 ≤ 601000 ∧ slots + 3000 ≤ 7293000)
    (kk : ∀ (a : Nat → Nat) (x : XS), I x (pul 49 x) → Wx k (cells + 30) (slots + 3000) LL a x 1875 [(0, .ref b), (1, .ref (a 0)), (2, .ref (a 49)), (3, .ref (a 48)), (4, .int i)] []) : Wx k cells slots LL a x 1776 [(0, .ref b), (1, .ref (a 0)), (2, .ref (a 49)), (3, .ref (a 48)), (4, .int i)] [] := by
  rcases hA x (pul 49 x) hI with ⟨E, x1, w, hu, hw, hth, hes, hI1⟩ | ⟨v, x1, w, hu, hw, hth, hcv, hI1⟩
  · refine xaload_n hk dL_law_1776 rfl ?_
    refine xaload_n hk dL_law_1777 rfl ?_
    refine xcallSWO 0 sub_FO pa0 px0 hk hNc (w_mostTellingOath hfl hu (fun E x h => by cases h; exact hes) (fun v x h => by cases h)) cw_mostTellingOath kL_232 dL_law_1778 rfl rfl (by decide) ⟨by omega, by omega⟩ (Nat.le_of_ble_eq_true rfl) ?_
    rintro _ x9 hw9
    obtain ⟨rfl, rfl⟩ := hw9
    rw [show LFO.length = 49 from rfl]
    refine xistore hk dL_law_1781 (by decide) ?_
    refine xaload_n hk dL_law_1783 rfl ?_
    refine xcallVO 49 sub_M rfl (pul49 (by decide)) hk (c_X10_mostTellingOath hw) bX10_mostTellingOath kL_234 dL_law_1784 rfl ⟨_, _, _, _, rfl, rfl⟩ rfl (by decide) ⟨by omega, by omega⟩ (Nat.le_of_ble_eq_true rfl) (det ?_)
    rw [show LM.length = 21 from rfl]
    refine xistore hk dL_law_1787 (by decide) ?_
    refine xaload_n hk dL_law_1789 rfl ?_
    refine xcallVO 49 sub_M rfl rfl hk c_X10_thrown bX10_thrown kL_103 dL_law_1790 rfl ⟨_, _, _, _, rfl, rfl⟩ rfl (by decide) ⟨by omega, by omega⟩ (Nat.le_of_ble_eq_true rfl) (det ?_)
    rw [show LM.length = 21 from rfl, xmix_self, thr_at, hth]
    refine xiload hk dL_law_1793 rfl ?_
    refine xicmp_eq hk 1800 dL_law_1795 (by decide) (fun _ => ?_) (fun hne => absurd rfl hne)
    refine xiload hk dL_law_1800 rfl ?_
    refine xif_ne hk 1817 dL_law_1802 (by decide) (fun _ => ?_) (fun hz => absurd hz (code1_ne _))
    refine xgoto hk 1875 dL_law_1817 (by decide) ?_
    refine xsub [(0, .ref b), (1, .ref (a 0)), (2, .ref (a 49)), (3, .ref (a 48)), (4, .int i)] rfl ?_
    exact xwiden (by omega) (by omega) (kk a _ (hcg hI1 (cg_lawF mix48 ⟨by decide, by decide⟩) cg_lawM))
  · refine xaload_n hk dL_law_1776 rfl ?_
    refine xaload_n hk dL_law_1777 rfl ?_
    refine xcallSWO 0 sub_FO pa0 px0 hk hNc (w_mostTellingOath hfl hu (fun E x h => by cases h) (fun v x h => by cases h; exact ⟨_, rfl⟩)) cw_mostTellingOath kL_232 dL_law_1778 rfl rfl (by decide) ⟨by omega, by omega⟩ (Nat.le_of_ble_eq_true rfl) ?_
    rintro _ x9 hw9
    obtain ⟨rfl, rfl⟩ := hw9
    rw [show LFO.length = 49 from rfl]
    refine xistore hk dL_law_1781 (by decide) ?_
    refine xaload_n hk dL_law_1783 rfl ?_
    refine xcallVO 49 sub_M rfl (pul49 (by decide)) hk (c_X10_mostTellingOath hw) bX10_mostTellingOath kL_234 dL_law_1784 rfl ⟨_, _, _, _, rfl, rfl⟩ rfl (by decide) ⟨by omega, by omega⟩ (Nat.le_of_ble_eq_true rfl) (det ?_)
    rw [show LM.length = 21 from rfl]
    refine xistore hk dL_law_1787 (by decide) ?_
    refine xaload_n hk dL_law_1789 rfl ?_
    refine xcallVO 49 sub_M rfl rfl hk c_X10_thrown bX10_thrown kL_103 dL_law_1790 rfl ⟨_, _, _, _, rfl, rfl⟩ rfl (by decide) ⟨by omega, by omega⟩ (Nat.le_of_ble_eq_true rfl) (det ?_)
    rw [show LM.length = 21 from rfl, xmix_self, thr_at, hth]
    refine xiload hk dL_law_1793 rfl ?_
    refine xicmp_eq hk 1800 dL_law_1795 (by decide) (fun _ => ?_) (fun hne => absurd rfl hne)
    refine xiload hk dL_law_1800 rfl ?_
    refine xif_ne hk 1817 dL_law_1802 (by decide) (fun hz => absurd rfl hz) (fun _ => ?_)
    refine xaload_n hk dL_law_1805 rfl ?_
    refine xiconst (v := 0) hk dL_law_1806 (by decide) ?_
    refine xlald hk dL_law_1807 rfl (inB_v (by decide)) ?_
    rw [show (0 : Int32).toNatClampNeg = 0 from rfl, out_at, hcv]
    refine xiload hk dL_law_1808 rfl ?_
    refine xi2l hk dL_law_1810 ?_
    refine xlcmp hk dL_law_1811 ?_
    refine xif_eq hk 1817 dL_law_1812 (by decide) (fun _ => ?_) (fun hz => absurd (lg_self _) hz)
    refine xgoto hk 1875 dL_law_1817 (by decide) ?_
    refine xsub [(0, .ref b), (1, .ref (a 0)), (2, .ref (a 49)), (3, .ref (a 48)), (4, .int i)] rfl ?_
    exact xwiden (by omega) (by omega) (kk a _ (hcg hI1 (cg_lawF mix48o ⟨by decide, by decide⟩) cg_lawM))
set_option maxHeartbeats 4000000 in
set_option maxRecDepth 100000 in
theorem law_meanRiders {k : Kx} {nm : String} (hk : Fok k code 9 RL ret nm 1312 601000 7293000) (hNc : NcK k) (hfl : (kg k).1.stackTraces = false) {b M : Nat} {xs : Nat → Int32} (hsc : ScK k b M xs) {i : Int32}  {I : XS → XS → Prop} (hcg : Cong I) (hMK : MKs I) (hA : AgN I f_X8_meanRiders f_X10_meanRiders) {a : Nat → Nat} {x : XS} {cells slots : Nat} (hI : I x (pul 49 x)) (hrm : cells + 30 ≤ 601000 ∧ slots + 3000 ≤ 7293000)
    (kk : ∀ (a : Nat → Nat) (x : XS), I x (pul 49 x) → Wx k (cells + 30) (slots + 3000) LL a x 1875 [(0, .ref b), (1, .ref (a 0)), (2, .ref (a 49)), (3, .ref (a 48)), (4, .int i)] []) : Wx k cells slots LL a x 1820 [(0, .ref b), (1, .ref (a 0)), (2, .ref (a 49)), (3, .ref (a 48)), (4, .int i)] [] := by
  obtain ⟨v, x1, z1, hu, hw, hI1⟩ := hA x (pul 49 x) hI
  refine xaload_n hk dL_law_1820 rfl ?_
  refine xcallVO 0 sub_F pa0 px0 hk (c_X8_meanRiders hu) bX8_meanRiders kL_235 dL_law_1821 rfl ⟨_, _, _, _, rfl, rfl⟩ rfl (by decide) ⟨by omega, by omega⟩ (Nat.le_of_ble_eq_true rfl) (det ?_)
  rw [show LF.length = 48 from rfl]
  refine xdstore hk dL_law_1824 (by decide) ?_
  refine xaload_n hk dL_law_1826 rfl ?_
  refine xcallVO 49 sub_M rfl (pul49 (by decide)) hk (c_X10_meanRiders hw) bX10_meanRiders kL_239 dL_law_1827 rfl ⟨_, _, _, _, rfl, rfl⟩ rfl (by decide) ⟨by omega, by omega⟩ (Nat.le_of_ble_eq_true rfl) (det ?_)
  rw [show LM.length = 21 from rfl]
  refine xdstore hk dL_law_1830 (by decide) ?_
  refine xdload hk dL_law_1832 rfl ?_
  refine xdload hk dL_law_1834 rfl ?_
  refine xdcmp hk dL_law_1836 ?_
  rcases dcmp_same v with hc | hc
  · rw [hc]
    refine xif_eq hk 1858 dL_law_1837 (by decide) (fun _ => ?_) (fun hz => absurd rfl hz)
    refine xgoto hk 1875 dL_law_1858 (by decide) ?_
    refine xsub [(0, .ref b), (1, .ref (a 0)), (2, .ref (a 49)), (3, .ref (a 48)), (4, .int i)] rfl ?_
    exact xwiden (by omega) (by omega) (kk a _ (hcg hI1 (cg_lawF (fun _ _ _ => ⟨rfl, rfl⟩) ⟨by decide, by decide⟩) cg_lawM))
  · rw [hc]
    refine xif_eq hk 1858 dL_law_1837 (by decide) (fun hz => absurd hz (by decide)) (fun _ => ?_)
    refine xdload hk dL_law_1840 rfl ?_
    refine xdload hk dL_law_1842 rfl ?_
    refine xdcmp hk dL_law_1844 ?_
    rw [hc]
    refine xif_eq hk 1856 dL_law_1845 (by decide) (fun hz => absurd hz (by decide)) (fun _ => ?_)
    refine xdload hk dL_law_1848 rfl ?_
    refine xdload hk dL_law_1850 rfl ?_
    refine xdcmp hk dL_law_1852 ?_
    rw [hc]
    refine xif_ne hk 1858 dL_law_1853 (by decide) (fun _ => ?_) (fun hz => absurd hz (by decide))
    refine xgoto hk 1875 dL_law_1858 (by decide) ?_
    refine xsub [(0, .ref b), (1, .ref (a 0)), (2, .ref (a 49)), (3, .ref (a 48)), (4, .int i)] rfl ?_
    exact xwiden (by omega) (by omega) (kk a _ (hcg hI1 (cg_lawF (fun _ _ _ => ⟨rfl, rfl⟩) ⟨by decide, by decide⟩) cg_lawM))
set_option maxHeartbeats 4000000 in
set_option maxRecDepth 100000 in
theorem law_digest {k : Kx} {nm : String} (hk : Fok k code 9 RL ret nm 1312 601000 7293000) (hNc : NcK k) (hfl : (kg k).1.stackTraces = false) {b M : Nat} {xs : Nat → Int32} (hsc : ScK k b M xs) {i : Int32}  {I : XS → XS → Prop} (hcg : Cong I) (hMK : MKs I) (hA : AgN I f_X8_digest f_X10_digest) {a : Nat → Nat} {x : XS} {cells slots : Nat} (hI : I x (pul 49 x)) (hrm : cells + 30 ≤ 601000 ∧ slots + 3000 ≤ 7293000)
    (kk : ∀ (a : Nat → Nat) (x : XS), I x (pul 49 x) → Wx k (cells + 30) (slots + 3000) LL a x 1875 [(0, .ref b), (1, .ref (a 0)), (2, .ref (a 49)), (3, .ref (a 48)), (4, .int i)] []) : Wx k cells slots LL a x 1861 [(0, .ref b), (1, .ref (a 0)), (2, .ref (a 49)), (3, .ref (a 48)), (4, .int i)] [] := by
  obtain ⟨v, x1, z1, hu, hw, hI1⟩ := hA x (pul 49 x) hI
  refine xaload_n hk dL_law_1861 rfl ?_
  refine xcallVO 0 sub_F pa0 px0 hk (c_X8_digest hu) bX8_digest kL_240 dL_law_1862 rfl ⟨_, _, _, _, rfl, rfl⟩ rfl (by decide) ⟨by omega, by omega⟩ (Nat.le_of_ble_eq_true rfl) (det ?_)
  rw [show LF.length = 48 from rfl]
  refine xaload_n hk dL_law_1865 rfl ?_
  refine xcallVO 49 sub_M rfl (pul49 (by decide)) hk (c_X10_digest hw) bX10_digest kL_244 dL_law_1866 rfl ⟨_, _, _, _, rfl, rfl⟩ rfl (by decide) ⟨by omega, by omega⟩ (Nat.le_of_ble_eq_true rfl) (det ?_)
  rw [show LM.length = 21 from rfl]
  refine xlcmp hk dL_law_1869 ?_
  refine xif_eq hk 1875 dL_law_1870 (by decide) (fun _ => ?_) (fun hz => absurd (lg_self _) hz)
  refine xsub [(0, .ref b), (1, .ref (a 0)), (2, .ref (a 49)), (3, .ref (a 48)), (4, .int i)] rfl ?_
  exact xwiden (by omega) (by omega) (kk a _ (hcg hI1 (cg_lawF (fun _ _ _ => ⟨rfl, rfl⟩) ⟨by decide, by decide⟩) cg_lawM))
