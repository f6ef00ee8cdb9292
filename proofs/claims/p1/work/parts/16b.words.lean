theorem wd_1565 : Cond.instanceMethod ⟨"CarHouse$Questions", "readDatum", "([LCarHouse$Chart;III)V"⟩ ∈ GT := gt_7 (List.mem_of_getElem? (i := 125) rfl) rfl
theorem wd_1566 : Cond.code ⟨"CarHouse$Questions", "readDatum", "([LCarHouse$Chart;III)V"⟩ prog_9_method_10_code 6 none ∈ GT := gt_7 (List.mem_of_getElem? (i := 126) rfl) rfl
theorem wd_1567 : Cond.methodLink "CarHouse$Questions" 103 ⟨"CarHouse$Questions", "hasDatum", "([LCarHouse$Chart;III)Z"⟩ ∈ GT := gt_7 (List.mem_of_getElem? (i := 127) rfl) rfl
theorem wd_1568 : Cond.static ⟨"CarHouse$Questions", "hasDatum", "([LCarHouse$Chart;III)Z"⟩ ∈ GT := gt_7 (List.mem_of_getElem? (i := 128) rfl) rfl
theorem wd_1569 : Cond.code ⟨"CarHouse$Questions", "hasDatum", "([LCarHouse$Chart;III)Z"⟩ prog_9_method_9_code 4 (some .boolean) ∈ GT := gt_7 (List.mem_of_getElem? (i := 129) rfl) rfl
theorem wd_1570 : Cond.methodLink "CarHouse$Questions" 66 ⟨"CarHouse$Questions", "writeDatum", "([LCarHouse$Chart;I[I)V"⟩ ∈ GT := gt_7 (List.mem_of_getElem? (i := 130) rfl) rfl
theorem wd_1572 : Cond.instanceMethod ⟨"CarHouse$Questions", "writeDatum", "([LCarHouse$Chart;I[I)V"⟩ ∈ GT := gt_7 (List.mem_of_getElem? (i := 132) rfl) rfl
theorem wd_1573 : Cond.code ⟨"CarHouse$Questions", "writeDatum", "([LCarHouse$Chart;I[I)V"⟩ prog_9_method_11_code 7 none ∈ GT := gt_7 (List.mem_of_getElem? (i := 133) rfl) rfl
theorem wd_1574 : Cond.methodLink "CarHouse$Questions" 74 ⟨"CarHouse$Questions", "listTroubles", "(LCarHouse$Troubles;)V"⟩ ∈ GT := gt_7 (List.mem_of_getElem? (i := 134) rfl) rfl
theorem wd_1576 : Cond.instanceMethod ⟨"CarHouse$Questions", "listTroubles", "(LCarHouse$Troubles;)V"⟩ ∈ GT := gt_7 (List.mem_of_getElem? (i := 136) rfl) rfl
theorem wd_1577 : Cond.code ⟨"CarHouse$Questions", "listTroubles", "(LCarHouse$Troubles;)V"⟩ prog_9_method_12_code 3 none ∈ GT := gt_7 (List.mem_of_getElem? (i := 137) rfl) rfl
theorem wd_1578 : Cond.methodLink "CarHouse$Questions" 117 ⟨"CarHouse$Troubles", "statusOf", "(I)I"⟩ ∈ GT := gt_7 (List.mem_of_getElem? (i := 138) rfl) rfl
theorem wd_1579 : Cond.instanceMethod ⟨"CarHouse$Troubles", "statusOf", "(I)I"⟩ ∈ GT := gt_7 (List.mem_of_getElem? (i := 139) rfl) rfl
theorem wd_1580 : Cond.selects "CarHouse$Troubles" ⟨"CarHouse$Troubles", "statusOf", "(I)I"⟩ ⟨"CarHouse$Troubles", "statusOf", "(I)I"⟩ ∈ GT := gt_7 (List.mem_of_getElem? (i := 140) rfl) rfl
theorem wd_1581 : Cond.code ⟨"CarHouse$Troubles", "statusOf", "(I)I"⟩ prog_12_method_20_code 2 (some .int) ∈ GT := gt_7 (List.mem_of_getElem? (i := 141) rfl) rfl
theorem wd_1582 : Cond.methodLink "CarHouse$Questions" 78 ⟨"CarHouse$Questions", "openSeed", "(I)V"⟩ ∈ GT := gt_7 (List.mem_of_getElem? (i := 142) rfl) rfl
theorem wd_1584 : Cond.instanceMethod ⟨"CarHouse$Questions", "openSeed", "(I)V"⟩ ∈ GT := gt_7 (List.mem_of_getElem? (i := 144) rfl) rfl
theorem wd_1585 : Cond.code ⟨"CarHouse$Questions", "openSeed", "(I)V"⟩ prog_9_method_13_code 3 none ∈ GT := gt_7 (List.mem_of_getElem? (i := 145) rfl) rfl
theorem wd_1586 : Cond.constant "CarHouse$Questions" 121 (-1640531535) ∈ GT := gt_7 (List.mem_of_getElem? (i := 146) rfl) rfl
theorem wd_1587 : Cond.methodLink "CarHouse$Questions" 86 ⟨"CarHouse$Questions", "tryKey", "(LCarHouse$Codes;I[I)V"⟩ ∈ GT := gt_7 (List.mem_of_getElem? (i := 147) rfl) rfl
theorem wd_1589 : Cond.instanceMethod ⟨"CarHouse$Questions", "tryKey", "(LCarHouse$Codes;I[I)V"⟩ ∈ GT := gt_7 (List.mem_of_getElem? (i := 149) rfl) rfl
theorem wd_1590 : Cond.code ⟨"CarHouse$Questions", "tryKey", "(LCarHouse$Codes;I[I)V"⟩ prog_9_method_14_code 5 none ∈ GT := gt_7 (List.mem_of_getElem? (i := 150) rfl) rfl
theorem wd_1591 : Cond.methodLink "CarHouse$Questions" 122 ⟨"CarHouse$Codes", "make", "(I[II)V"⟩ ∈ GT := gt_7 (List.mem_of_getElem? (i := 151) rfl) rfl
theorem wd_1592 : Cond.methodLink "CarHouse$Questions" 128 ⟨"CarHouse$Codes", "isOut", "([II)Z"⟩ ∈ GT := gt_7 (List.mem_of_getElem? (i := 152) rfl) rfl
theorem wd_1593 : Cond.instanceMethod ⟨"CarHouse$Codes", "isOut", "([II)Z"⟩ ∈ GT := gt_7 (List.mem_of_getElem? (i := 153) rfl) rfl
theorem wd_1594 : Cond.selects "CarHouse$Codes" ⟨"CarHouse$Codes", "isOut", "([II)Z"⟩ ⟨"CarHouse$Codes", "isOut", "([II)Z"⟩ ∈ GT := gt_7 (List.mem_of_getElem? (i := 154) rfl) rfl
theorem wd_1595 : Cond.code ⟨"CarHouse$Codes", "isOut", "([II)Z"⟩ prog_5_method_6_code 4 (some .boolean) ∈ GT := gt_7 (List.mem_of_getElem? (i := 155) rfl) rfl
theorem wd_1596 : Cond.methodLink "CarHouse$Questions" 90 ⟨"CarHouse$Troubles", "forgetAll", "()V"⟩ ∈ GT := gt_7 (List.mem_of_getElem? (i := 156) rfl) rfl
theorem wd_1597 : Cond.instanceMethod ⟨"CarHouse$Troubles", "forgetAll", "()V"⟩ ∈ GT := gt_7 (List.mem_of_getElem? (i := 157) rfl) rfl
theorem wd_1598 : Cond.selects "CarHouse$Troubles" ⟨"CarHouse$Troubles", "forgetAll", "()V"⟩ ⟨"CarHouse$Troubles", "forgetAll", "()V"⟩ ∈ GT := gt_7 (List.mem_of_getElem? (i := 158) rfl) rfl
theorem wd_1599 : Cond.code ⟨"CarHouse$Troubles", "forgetAll", "()V"⟩ prog_12_method_5_code 2 none ∈ GT := gt_7 (List.mem_of_getElem? (i := 159) rfl) rfl
theorem wd_1600 : Cond.methodLink "CarHouse$Car" 279 ⟨"CarHouse$Transfer", "make", "(IZ[II)V"⟩ ∈ GT := gt_7 (List.mem_of_getElem? (i := 160) rfl) rfl
theorem wd_1601 : Cond.instanceMethod ⟨"CarHouse$Transfer", "make", "(IZ[II)V"⟩ ∈ GT := gt_7 (List.mem_of_getElem? (i := 161) rfl) rfl
theorem wd_1602 : Cond.selects "CarHouse$Transfer" ⟨"CarHouse$Transfer", "make", "(IZ[II)V"⟩ ⟨"CarHouse$Transfer", "make", "(IZ[II)V"⟩ ∈ GT := gt_7 (List.mem_of_getElem? (i := 162) rfl) rfl
theorem wd_1603 : Cond.code ⟨"CarHouse$Transfer", "make", "(IZ[II)V"⟩ prog_11_method_3_code 6 none ∈ GT := gt_7 (List.mem_of_getElem? (i := 163) rfl) rfl
theorem wd_1604 : Cond.methodLink "CarHouse$Car" 216 ⟨"CarHouse$Frames", "frameOf", "(I)I"⟩ ∈ GT := gt_7 (List.mem_of_getElem? (i := 164) rfl) rfl
theorem wd_1605 : Cond.instanceMethod ⟨"CarHouse$Frames", "frameOf", "(I)I"⟩ ∈ GT := gt_7 (List.mem_of_getElem? (i := 165) rfl) rfl
theorem wd_1606 : Cond.selects "CarHouse$Frames" ⟨"CarHouse$Frames", "frameOf", "(I)I"⟩ ⟨"CarHouse$Frames", "frameOf", "(I)I"⟩ ∈ GT := gt_7 (List.mem_of_getElem? (i := 166) rfl) rfl
theorem wd_1607 : Cond.code ⟨"CarHouse$Frames", "frameOf", "(I)I"⟩ prog_8_method_21_code 3 (some .int) ∈ GT := gt_7 (List.mem_of_getElem? (i := 167) rfl) rfl
theorem wd_1608 : Cond.methodLink "CarHouse$Car" 220 ⟨"CarHouse$Car", "takeSignals", "(II[I)V"⟩ ∈ GT := gt_7 (List.mem_of_getElem? (i := 168) rfl) rfl
theorem wd_1610 : Cond.instanceMethod ⟨"CarHouse$Car", "takeSignals", "(II[I)V"⟩ ∈ GT := gt_7 (List.mem_of_getElem? (i := 170) rfl) rfl
theorem wd_1611 : Cond.code ⟨"CarHouse$Car", "takeSignals", "(II[I)V"⟩ prog_3_method_10_code 5 none ∈ GT := gt_7 (List.mem_of_getElem? (i := 171) rfl) rfl
theorem wd_1612 : Cond.methodLink "CarHouse$Car" 224 ⟨"CarHouse$Frames", "accept", "(II[ILCarHouse$Codes;)Z"⟩ ∈ GT := gt_7 (List.mem_of_getElem? (i := 172) rfl) rfl
theorem wd_1613 : Cond.instanceMethod ⟨"CarHouse$Frames", "accept", "(II[ILCarHouse$Codes;)Z"⟩ ∈ GT := gt_7 (List.mem_of_getElem? (i := 173) rfl) rfl
theorem wd_1614 : Cond.selects "CarHouse$Frames" ⟨"CarHouse$Frames", "accept", "(II[ILCarHouse$Codes;)Z"⟩ ⟨"CarHouse$Frames", "accept", "(II[ILCarHouse$Codes;)Z"⟩ ∈ GT := gt_7 (List.mem_of_getElem? (i := 174) rfl) rfl
theorem wd_1615 : Cond.code ⟨"CarHouse$Frames", "accept", "(II[ILCarHouse$Codes;)Z"⟩ prog_8_method_31_code 6 (some .boolean) ∈ GT := gt_7 (List.mem_of_getElem? (i := 175) rfl) rfl
theorem wd_1616 : Cond.methodLink "CarHouse$Frames" 144 ⟨"CarHouse$Codes", "isOut", "([II)Z"⟩ ∈ GT := gt_7 (List.mem_of_getElem? (i := 176) rfl) rfl
theorem wd_1617 : Cond.methodLink "CarHouse$Car" 230 ⟨"CarHouse$Troubles", "isWatching", "(II)Z"⟩ ∈ GT := gt_7 (List.mem_of_getElem? (i := 177) rfl) rfl
theorem wd_1618 : Cond.instanceMethod ⟨"CarHouse$Troubles", "isWatching", "(II)Z"⟩ ∈ GT := gt_7 (List.mem_of_getElem? (i := 178) rfl) rfl
theorem wd_1619 : Cond.selects "CarHouse$Troubles" ⟨"CarHouse$Troubles", "isWatching", "(II)Z"⟩ ⟨"CarHouse$Troubles", "isWatching", "(II)Z"⟩ ∈ GT := gt_7 (List.mem_of_getElem? (i := 179) rfl) rfl
theorem wd_1620 : Cond.code ⟨"CarHouse$Troubles", "isWatching", "(II)Z"⟩ prog_12_method_6_code 3 (some .boolean) ∈ GT := gt_7 (List.mem_of_getElem? (i := 180) rfl) rfl
theorem wd_1621 : Cond.methodLink "CarHouse$Car" 233 ⟨"CarHouse$Troubles", "signalOf", "(I)I"⟩ ∈ GT := gt_7 (List.mem_of_getElem? (i := 181) rfl) rfl
theorem wd_1622 : Cond.instanceMethod ⟨"CarHouse$Troubles", "signalOf", "(I)I"⟩ ∈ GT := gt_7 (List.mem_of_getElem? (i := 182) rfl) rfl
theorem wd_1623 : Cond.selects "CarHouse$Troubles" ⟨"CarHouse$Troubles", "signalOf", "(I)I"⟩ ⟨"CarHouse$Troubles", "signalOf", "(I)I"⟩ ∈ GT := gt_7 (List.mem_of_getElem? (i := 183) rfl) rfl
theorem wd_1624 : Cond.code ⟨"CarHouse$Troubles", "signalOf", "(I)I"⟩ prog_12_method_7_code 2 (some .int) ∈ GT := gt_7 (List.mem_of_getElem? (i := 184) rfl) rfl
theorem wd_1625 : Cond.methodLink "CarHouse$Car" 236 ⟨"CarHouse$Frames", "isIn", "(II)Z"⟩ ∈ GT := gt_7 (List.mem_of_getElem? (i := 185) rfl) rfl
theorem wd_1626 : Cond.instanceMethod ⟨"CarHouse$Frames", "isIn", "(II)Z"⟩ ∈ GT := gt_7 (List.mem_of_getElem? (i := 186) rfl) rfl
theorem wd_1627 : Cond.selects "CarHouse$Frames" ⟨"CarHouse$Frames", "isIn", "(II)Z"⟩ ⟨"CarHouse$Frames", "isIn", "(II)Z"⟩ ∈ GT := gt_7 (List.mem_of_getElem? (i := 187) rfl) rfl
theorem wd_1628 : Cond.code ⟨"CarHouse$Frames", "isIn", "(II)Z"⟩ prog_8_method_22_code 3 (some .boolean) ∈ GT := gt_7 (List.mem_of_getElem? (i := 188) rfl) rfl
theorem wd_1629 : Cond.methodLink "CarHouse$Car" 239 ⟨"CarHouse$Troubles", "notePassed", "(II)V"⟩ ∈ GT := gt_7 (List.mem_of_getElem? (i := 189) rfl) rfl
theorem wd_1630 : Cond.instanceMethod ⟨"CarHouse$Troubles", "notePassed", "(II)V"⟩ ∈ GT := gt_7 (List.mem_of_getElem? (i := 190) rfl) rfl
theorem wd_1631 : Cond.selects "CarHouse$Troubles" ⟨"CarHouse$Troubles", "notePassed", "(II)V"⟩ ⟨"CarHouse$Troubles", "notePassed", "(II)V"⟩ ∈ GT := gt_7 (List.mem_of_getElem? (i := 191) rfl) rfl
theorem wd_1632 : Cond.code ⟨"CarHouse$Troubles", "notePassed", "(II)V"⟩ prog_12_method_9_code 3 none ∈ GT := gt_7 (List.mem_of_getElem? (i := 192) rfl) rfl
theorem wd_1633 : Cond.methodLink "CarHouse$Troubles" 41 ⟨"java/lang/Math", "min", "(II)I"⟩ ∈ GT := gt_7 (List.mem_of_getElem? (i := 193) rfl) rfl
theorem wd_1634 : Cond.methodLink "CarHouse$Troubles" 47 ⟨"java/lang/Math", "max", "(II)I"⟩ ∈ GT := gt_7 (List.mem_of_getElem? (i := 194) rfl) rfl
theorem wd_1635 : Cond.methodLink "CarHouse$Car" 242 ⟨"CarHouse$Frames", "valueIn", "(I[I)J"⟩ ∈ GT := gt_7 (List.mem_of_getElem? (i := 195) rfl) rfl
theorem wd_1636 : Cond.instanceMethod ⟨"CarHouse$Frames", "valueIn", "(I[I)J"⟩ ∈ GT := gt_7 (List.mem_of_getElem? (i := 196) rfl) rfl
theorem wd_1637 : Cond.selects "CarHouse$Frames" ⟨"CarHouse$Frames", "valueIn", "(I[I)J"⟩ ⟨"CarHouse$Frames", "valueIn", "(I[I)J"⟩ ∈ GT := gt_7 (List.mem_of_getElem? (i := 197) rfl) rfl
theorem wd_1638 : Cond.code ⟨"CarHouse$Frames", "valueIn", "(I[I)J"⟩ prog_8_method_29_code 6 (some .long) ∈ GT := gt_7 (List.mem_of_getElem? (i := 198) rfl) rfl
theorem wd_1639 : Cond.methodLink "CarHouse$Car" 246 ⟨"CarHouse$Car", "takeRead", "(IJ)V"⟩ ∈ GT := gt_7 (List.mem_of_getElem? (i := 199) rfl) rfl
theorem wd_1641 : Cond.instanceMethod ⟨"CarHouse$Car", "takeRead", "(IJ)V"⟩ ∈ GT := gt_7 (List.mem_of_getElem? (i := 201) rfl) rfl
theorem wd_1642 : Cond.code ⟨"CarHouse$Car", "takeRead", "(IJ)V"⟩ prog_3_method_11_code 5 none ∈ GT := gt_7 (List.mem_of_getElem? (i := 202) rfl) rfl
theorem wd_1643 : Cond.methodLink "CarHouse$Car" 253 ⟨"CarHouse$Chart", "queue", "(I)Z"⟩ ∈ GT := gt_7 (List.mem_of_getElem? (i := 203) rfl) rfl
theorem wd_1644 : Cond.instanceMethod ⟨"CarHouse$Chart", "queue", "(I)Z"⟩ ∈ GT := gt_7 (List.mem_of_getElem? (i := 204) rfl) rfl
theorem wd_1645 : Cond.selects "CarHouse$Chart" ⟨"CarHouse$Chart", "queue", "(I)Z"⟩ ⟨"CarHouse$Chart", "queue", "(I)Z"⟩ ∈ GT := gt_7 (List.mem_of_getElem? (i := 205) rfl) rfl
theorem wd_1646 : Cond.code ⟨"CarHouse$Chart", "queue", "(I)Z"⟩ prog_4_method_16_code 2 (some .boolean) ∈ GT := gt_7 (List.mem_of_getElem? (i := 206) rfl) rfl
theorem wd_1647 : Cond.methodLink "CarHouse$Car" 156 ⟨"CarHouse$Chart", "workOff", "(I)V"⟩ ∈ GT := gt_7 (List.mem_of_getElem? (i := 207) rfl) rfl
theorem wd_1648 : Cond.instanceMethod ⟨"CarHouse$Chart", "workOff", "(I)V"⟩ ∈ GT := gt_7 (List.mem_of_getElem? (i := 208) rfl) rfl
theorem wd_1649 : Cond.selects "CarHouse$Chart" ⟨"CarHouse$Chart", "workOff", "(I)V"⟩ ⟨"CarHouse$Chart", "workOff", "(I)V"⟩ ∈ GT := gt_7 (List.mem_of_getElem? (i := 209) rfl) rfl
theorem wd_1650 : Cond.code ⟨"CarHouse$Chart", "workOff", "(I)V"⟩ prog_4_method_17_code 4 none ∈ GT := gt_7 (List.mem_of_getElem? (i := 210) rfl) rfl
theorem wd_1651 : Cond.methodLink "CarHouse$Chart" 94 ⟨"CarHouse$Chart", "happen", "(II)Z"⟩ ∈ GT := gt_7 (List.mem_of_getElem? (i := 211) rfl) rfl
theorem wd_1653 : Cond.instanceMethod ⟨"CarHouse$Chart", "happen", "(II)Z"⟩ ∈ GT := gt_7 (List.mem_of_getElem? (i := 213) rfl) rfl
theorem wd_1654 : Cond.code ⟨"CarHouse$Chart", "happen", "(II)Z"⟩ prog_4_method_18_code 5 (some .boolean) ∈ GT := gt_7 (List.mem_of_getElem? (i := 214) rfl) rfl
theorem wd_1655 : Cond.methodLink "CarHouse$Chart" 97 ⟨"CarHouse$Chart", "aim", "(II)V"⟩ ∈ GT := gt_7 (List.mem_of_getElem? (i := 215) rfl) rfl
theorem wd_1657 : Cond.instanceMethod ⟨"CarHouse$Chart", "aim", "(II)V"⟩ ∈ GT := gt_7 (List.mem_of_getElem? (i := 217) rfl) rfl
theorem wd_1658 : Cond.code ⟨"CarHouse$Chart", "aim", "(II)V"⟩ prog_4_method_32_code 5 none ∈ GT := gt_7 (List.mem_of_getElem? (i := 218) rfl) rfl
theorem wd_1659 : Cond.methodLink "CarHouse$Chart" 145 ⟨"CarHouse$Chart", "aimAt", "(II)V"⟩ ∈ GT := gt_7 (List.mem_of_getElem? (i := 219) rfl) rfl
theorem wd_1661 : Cond.instanceMethod ⟨"CarHouse$Chart", "aimAt", "(II)V"⟩ ∈ GT := gt_7 (List.mem_of_getElem? (i := 221) rfl) rfl
theorem wd_1662 : Cond.code ⟨"CarHouse$Chart", "aimAt", "(II)V"⟩ prog_4_method_33_code 8 none ∈ GT := gt_7 (List.mem_of_getElem? (i := 222) rfl) rfl
theorem wd_1663 : Cond.methodLink "CarHouse$Chart" 100 ⟨"CarHouse$Chart", "enterAll", "(I)V"⟩ ∈ GT := gt_7 (List.mem_of_getElem? (i := 223) rfl) rfl
theorem wd_1665 : Cond.instanceMethod ⟨"CarHouse$Chart", "enterAll", "(I)V"⟩ ∈ GT := gt_7 (List.mem_of_getElem? (i := 225) rfl) rfl
theorem wd_1666 : Cond.code ⟨"CarHouse$Chart", "enterAll", "(I)V"⟩ prog_4_method_34_code 6 none ∈ GT := gt_7 (List.mem_of_getElem? (i := 226) rfl) rfl
theorem wd_1667 : Cond.methodLink "CarHouse$Chart" 148 ⟨"CarHouse$Chart", "pickChild", "(I)V"⟩ ∈ GT := gt_7 (List.mem_of_getElem? (i := 227) rfl) rfl
theorem wd_1669 : Cond.instanceMethod ⟨"CarHouse$Chart", "pickChild", "(I)V"⟩ ∈ GT := gt_7 (List.mem_of_getElem? (i := 229) rfl) rfl
theorem wd_1670 : Cond.code ⟨"CarHouse$Chart", "pickChild", "(I)V"⟩ prog_4_method_35_code 2 none ∈ GT := gt_7 (List.mem_of_getElem? (i := 230) rfl) rfl
theorem wd_1671 : Cond.methodLink "CarHouse$Chart" 142 ⟨"CarHouse$Chart", "doActs", "(II)V"⟩ ∈ GT := gt_7 (List.mem_of_getElem? (i := 231) rfl) rfl
theorem wd_1673 : Cond.instanceMethod ⟨"CarHouse$Chart", "doActs", "(II)V"⟩ ∈ GT := gt_7 (List.mem_of_getElem? (i := 233) rfl) rfl
theorem wd_1674 : Cond.code ⟨"CarHouse$Chart", "doActs", "(II)V"⟩ prog_4_method_31_code 5 none ∈ GT := gt_7 (List.mem_of_getElem? (i := 234) rfl) rfl
theorem wd_1675 : Cond.methodLink "CarHouse$Chart" 103 ⟨"CarHouse$Chart", "chain", "()Z"⟩ ∈ GT := gt_7 (List.mem_of_getElem? (i := 235) rfl) rfl
theorem wd_1677 : Cond.instanceMethod ⟨"CarHouse$Chart", "chain", "()Z"⟩ ∈ GT := gt_7 (List.mem_of_getElem? (i := 237) rfl) rfl
theorem wd_1678 : Cond.code ⟨"CarHouse$Chart", "chain", "()Z"⟩ prog_4_method_20_code 3 (some .boolean) ∈ GT := gt_7 (List.mem_of_getElem? (i := 238) rfl) rfl
theorem wd_1679 : Cond.methodLink "CarHouse$Chart" 110 ⟨"CarHouse$Chart", "select", "(I)I"⟩ ∈ GT := gt_7 (List.mem_of_getElem? (i := 239) rfl) rfl
theorem wd_1681 : Cond.instanceMethod ⟨"CarHouse$Chart", "select", "(I)I"⟩ ∈ GT := gt_8 (List.mem_of_getElem? (i := 1) rfl) rfl
theorem wd_1682 : Cond.code ⟨"CarHouse$Chart", "select", "(I)I"⟩ prog_4_method_21_code 6 (some .int) ∈ GT := gt_8 (List.mem_of_getElem? (i := 2) rfl) rfl
theorem wd_1683 : Cond.methodLink "CarHouse$Chart" 116 ⟨"CarHouse$Chart", "mayGo", "(I)Z"⟩ ∈ GT := gt_8 (List.mem_of_getElem? (i := 3) rfl) rfl
theorem wd_1685 : Cond.instanceMethod ⟨"CarHouse$Chart", "mayGo", "(I)Z"⟩ ∈ GT := gt_8 (List.mem_of_getElem? (i := 5) rfl) rfl
theorem wd_1686 : Cond.code ⟨"CarHouse$Chart", "mayGo", "(I)Z"⟩ prog_4_method_22_code 3 (some .boolean) ∈ GT := gt_8 (List.mem_of_getElem? (i := 6) rfl) rfl
theorem wd_1687 : Cond.methodLink "CarHouse$Chart" 129 ⟨"CarHouse$Chart", "isJoined", "(I)Z"⟩ ∈ GT := gt_8 (List.mem_of_getElem? (i := 7) rfl) rfl
theorem wd_1689 : Cond.instanceMethod ⟨"CarHouse$Chart", "isJoined", "(I)Z"⟩ ∈ GT := gt_8 (List.mem_of_getElem? (i := 9) rfl) rfl
theorem wd_1690 : Cond.code ⟨"CarHouse$Chart", "isJoined", "(I)Z"⟩ prog_4_method_23_code 4 (some .boolean) ∈ GT := gt_8 (List.mem_of_getElem? (i := 10) rfl) rfl
theorem wd_1691 : Cond.methodLink "CarHouse$Chart" 119 ⟨"CarHouse$Chart", "holds", "(I)Z"⟩ ∈ GT := gt_8 (List.mem_of_getElem? (i := 11) rfl) rfl
theorem wd_1693 : Cond.instanceMethod ⟨"CarHouse$Chart", "holds", "(I)Z"⟩ ∈ GT := gt_8 (List.mem_of_getElem? (i := 13) rfl) rfl
theorem wd_1694 : Cond.code ⟨"CarHouse$Chart", "holds", "(I)Z"⟩ prog_4_method_24_code 5 (some .boolean) ∈ GT := gt_8 (List.mem_of_getElem? (i := 14) rfl) rfl
theorem wd_1695 : Cond.methodLink "CarHouse$Chart" 132 ⟨"CarHouse$Chart", "compare", "(IJJ)Z"⟩ ∈ GT := gt_8 (List.mem_of_getElem? (i := 15) rfl) rfl
theorem wd_1697 : Cond.instanceMethod ⟨"CarHouse$Chart", "compare", "(IJJ)Z"⟩ ∈ GT := gt_8 (List.mem_of_getElem? (i := 17) rfl) rfl
theorem wd_1698 : Cond.code ⟨"CarHouse$Chart", "compare", "(IJJ)Z"⟩ prog_4_method_25_code 6 (some .boolean) ∈ GT := gt_8 (List.mem_of_getElem? (i := 18) rfl) rfl
theorem wd_1699 : Cond.methodLink "CarHouse$Chart" 122 ⟨"CarHouse$Chart", "putReady", "(II)I"⟩ ∈ GT := gt_8 (List.mem_of_getElem? (i := 19) rfl) rfl
theorem wd_1701 : Cond.instanceMethod ⟨"CarHouse$Chart", "putReady", "(II)I"⟩ ∈ GT := gt_8 (List.mem_of_getElem? (i := 21) rfl) rfl
theorem wd_1702 : Cond.code ⟨"CarHouse$Chart", "putReady", "(II)I"⟩ prog_4_method_26_code 5 (some .int) ∈ GT := gt_8 (List.mem_of_getElem? (i := 22) rfl) rfl
theorem wd_1703 : Cond.methodLink "CarHouse$Chart" 126 ⟨"CarHouse$Chart", "claim", "(I)Z"⟩ ∈ GT := gt_8 (List.mem_of_getElem? (i := 23) rfl) rfl
theorem wd_1705 : Cond.instanceMethod ⟨"CarHouse$Chart", "claim", "(I)Z"⟩ ∈ GT := gt_8 (List.mem_of_getElem? (i := 25) rfl) rfl
theorem wd_1706 : Cond.code ⟨"CarHouse$Chart", "claim", "(I)Z"⟩ prog_4_method_27_code 3 (some .boolean) ∈ GT := gt_8 (List.mem_of_getElem? (i := 26) rfl) rfl
theorem wd_1707 : Cond.methodLink "CarHouse$Chart" 136 ⟨"CarHouse$Chart", "markInside", "(I)V"⟩ ∈ GT := gt_8 (List.mem_of_getElem? (i := 27) rfl) rfl
theorem wd_1709 : Cond.instanceMethod ⟨"CarHouse$Chart", "markInside", "(I)V"⟩ ∈ GT := gt_8 (List.mem_of_getElem? (i := 29) rfl) rfl
theorem wd_1710 : Cond.code ⟨"CarHouse$Chart", "markInside", "(I)V"⟩ prog_4_method_28_code 4 none ∈ GT := gt_8 (List.mem_of_getElem? (i := 30) rfl) rfl
theorem wd_1711 : Cond.methodLink "CarHouse$Chart" 113 ⟨"CarHouse$Chart", "goOn", "(I)V"⟩ ∈ GT := gt_8 (List.mem_of_getElem? (i := 31) rfl) rfl
theorem wd_1713 : Cond.instanceMethod ⟨"CarHouse$Chart", "goOn", "(I)V"⟩ ∈ GT := gt_8 (List.mem_of_getElem? (i := 33) rfl) rfl
theorem wd_1714 : Cond.code ⟨"CarHouse$Chart", "goOn", "(I)V"⟩ prog_4_method_29_code 5 none ∈ GT := gt_8 (List.mem_of_getElem? (i := 34) rfl) rfl
theorem wd_1715 : Cond.methodLink "CarHouse$Chart" 139 ⟨"CarHouse$Chart", "leaveAll", "(I)V"⟩ ∈ GT := gt_8 (List.mem_of_getElem? (i := 35) rfl) rfl
theorem wd_1717 : Cond.instanceMethod ⟨"CarHouse$Chart", "leaveAll", "(I)V"⟩ ∈ GT := gt_8 (List.mem_of_getElem? (i := 37) rfl) rfl
theorem wd_1718 : Cond.code ⟨"CarHouse$Chart", "leaveAll", "(I)V"⟩ prog_4_method_30_code 4 none ∈ GT := gt_8 (List.mem_of_getElem? (i := 38) rfl) rfl
theorem wd_1719 : Cond.methodLink "CarHouse$Chart" 107 ⟨"CarHouse$Chart", "nextToSpeak", "(I)I"⟩ ∈ GT := gt_8 (List.mem_of_getElem? (i := 39) rfl) rfl
theorem wd_1721 : Cond.instanceMethod ⟨"CarHouse$Chart", "nextToSpeak", "(I)I"⟩ ∈ GT := gt_8 (List.mem_of_getElem? (i := 41) rfl) rfl
theorem wd_1722 : Cond.code ⟨"CarHouse$Chart", "nextToSpeak", "(I)I"⟩ prog_4_method_19_code 5 (some .int) ∈ GT := gt_8 (List.mem_of_getElem? (i := 42) rfl) rfl
theorem wd_1723 : Cond.methodLink "CarHouse$Car" 159 ⟨"CarHouse$Troubles", "lookForSilence", "(I)V"⟩ ∈ GT := gt_8 (List.mem_of_getElem? (i := 43) rfl) rfl
theorem wd_1724 : Cond.instanceMethod ⟨"CarHouse$Troubles", "lookForSilence", "(I)V"⟩ ∈ GT := gt_8 (List.mem_of_getElem? (i := 44) rfl) rfl
theorem wd_1725 : Cond.selects "CarHouse$Troubles" ⟨"CarHouse$Troubles", "lookForSilence", "(I)V"⟩ ⟨"CarHouse$Troubles", "lookForSilence", "(I)V"⟩ ∈ GT := gt_8 (List.mem_of_getElem? (i := 45) rfl) rfl
theorem wd_1726 : Cond.code ⟨"CarHouse$Troubles", "lookForSilence", "(I)V"⟩ prog_12_method_8_code 3 none ∈ GT := gt_8 (List.mem_of_getElem? (i := 46) rfl) rfl
theorem wd_1727 : Cond.methodLink "CarHouse$Troubles" 37 ⟨"CarHouse$Troubles", "noteFailed", "(II)V"⟩ ∈ GT := gt_8 (List.mem_of_getElem? (i := 47) rfl) rfl
theorem wd_1729 : Cond.instanceMethod ⟨"CarHouse$Troubles", "noteFailed", "(II)V"⟩ ∈ GT := gt_8 (List.mem_of_getElem? (i := 49) rfl) rfl
theorem wd_1730 : Cond.code ⟨"CarHouse$Troubles", "noteFailed", "(II)V"⟩ prog_12_method_10_code 3 none ∈ GT := gt_8 (List.mem_of_getElem? (i := 50) rfl) rfl
theorem wd_1731 : Cond.methodLink "CarHouse$Troubles" 50 ⟨"CarHouse$Troubles", "testFailed", "(I)V"⟩ ∈ GT := gt_8 (List.mem_of_getElem? (i := 51) rfl) rfl
theorem wd_1733 : Cond.instanceMethod ⟨"CarHouse$Troubles", "testFailed", "(I)V"⟩ ∈ GT := gt_8 (List.mem_of_getElem? (i := 53) rfl) rfl
theorem wd_1734 : Cond.code ⟨"CarHouse$Troubles", "testFailed", "(I)V"⟩ prog_12_method_11_code 4 none ∈ GT := gt_8 (List.mem_of_getElem? (i := 54) rfl) rfl
theorem wd_1735 : Cond.methodLink "CarHouse$Troubles" 53 ⟨"CarHouse$Troubles", "store", "(I)V"⟩ ∈ GT := gt_8 (List.mem_of_getElem? (i := 55) rfl) rfl
theorem wd_1737 : Cond.instanceMethod ⟨"CarHouse$Troubles", "store", "(I)V"⟩ ∈ GT := gt_8 (List.mem_of_getElem? (i := 57) rfl) rfl
theorem wd_1738 : Cond.code ⟨"CarHouse$Troubles", "store", "(I)V"⟩ prog_12_method_12_code 2 none ∈ GT := gt_8 (List.mem_of_getElem? (i := 58) rfl) rfl
theorem wd_1739 : Cond.methodLink "CarHouse$Troubles" 56 ⟨"CarHouse$Troubles", "entryOf", "(I)I"⟩ ∈ GT := gt_8 (List.mem_of_getElem? (i := 59) rfl) rfl
theorem wd_1741 : Cond.instanceMethod ⟨"CarHouse$Troubles", "entryOf", "(I)I"⟩ ∈ GT := gt_8 (List.mem_of_getElem? (i := 61) rfl) rfl
theorem wd_1742 : Cond.code ⟨"CarHouse$Troubles", "entryOf", "(I)I"⟩ prog_12_method_13_code 3 (some .int) ∈ GT := gt_8 (List.mem_of_getElem? (i := 62) rfl) rfl
theorem wd_1743 : Cond.methodLink "CarHouse$Troubles" 60 ⟨"CarHouse$Troubles", "findLesser", "(I)I"⟩ ∈ GT := gt_8 (List.mem_of_getElem? (i := 63) rfl) rfl
theorem wd_1745 : Cond.instanceMethod ⟨"CarHouse$Troubles", "findLesser", "(I)I"⟩ ∈ GT := gt_8 (List.mem_of_getElem? (i := 65) rfl) rfl
theorem wd_1746 : Cond.code ⟨"CarHouse$Troubles", "findLesser", "(I)I"⟩ prog_12_method_14_code 5 (some .int) ∈ GT := gt_8 (List.mem_of_getElem? (i := 66) rfl) rfl
theorem wd_1747 : Cond.methodLink "CarHouse$Troubles" 66 ⟨"CarHouse$Troubles", "weightOf", "(I)I"⟩ ∈ GT := gt_8 (List.mem_of_getElem? (i := 67) rfl) rfl
theorem wd_1749 : Cond.instanceMethod ⟨"CarHouse$Troubles", "weightOf", "(I)I"⟩ ∈ GT := gt_8 (List.mem_of_getElem? (i := 69) rfl) rfl
theorem wd_1750 : Cond.code ⟨"CarHouse$Troubles", "weightOf", "(I)I"⟩ prog_12_method_15_code 2 (some .int) ∈ GT := gt_8 (List.mem_of_getElem? (i := 70) rfl) rfl
theorem wd_1751 : Cond.methodLink "CarHouse$Troubles" 63 ⟨"CarHouse$Troubles", "removeEntry", "(I)V"⟩ ∈ GT := gt_8 (List.mem_of_getElem? (i := 71) rfl) rfl
theorem wd_1753 : Cond.instanceMethod ⟨"CarHouse$Troubles", "removeEntry", "(I)V"⟩ ∈ GT := gt_8 (List.mem_of_getElem? (i := 73) rfl) rfl
theorem wd_1754 : Cond.code ⟨"CarHouse$Troubles", "removeEntry", "(I)V"⟩ prog_12_method_16_code 3 none ∈ GT := gt_8 (List.mem_of_getElem? (i := 74) rfl) rfl
theorem wd_1755 : Cond.methodLink "CarHouse$Car" 162 ⟨"CarHouse$Car", "passTransfer", "()V"⟩ ∈ GT := gt_8 (List.mem_of_getElem? (i := 75) rfl) rfl
theorem wd_1757 : Cond.instanceMethod ⟨"CarHouse$Car", "passTransfer", "()V"⟩ ∈ GT := gt_8 (List.mem_of_getElem? (i := 77) rfl) rfl
theorem wd_1758 : Cond.code ⟨"CarHouse$Car", "passTransfer", "()V"⟩ prog_3_method_13_code 2 none ∈ GT := gt_8 (List.mem_of_getElem? (i := 78) rfl) rfl
theorem wd_1759 : Cond.methodLink "CarHouse$Car" 283 ⟨"CarHouse$Transfer", "tick", "(I)V"⟩ ∈ GT := gt_8 (List.mem_of_getElem? (i := 79) rfl) rfl
theorem wd_1760 : Cond.instanceMethod ⟨"CarHouse$Transfer", "tick", "(I)V"⟩ ∈ GT := gt_8 (List.mem_of_getElem? (i := 80) rfl) rfl
theorem wd_1761 : Cond.selects "CarHouse$Transfer" ⟨"CarHouse$Transfer", "tick", "(I)V"⟩ ⟨"CarHouse$Transfer", "tick", "(I)V"⟩ ∈ GT := gt_8 (List.mem_of_getElem? (i := 81) rfl) rfl
theorem wd_1762 : Cond.code ⟨"CarHouse$Transfer", "tick", "(I)V"⟩ prog_11_method_12_code 3 none ∈ GT := gt_8 (List.mem_of_getElem? (i := 82) rfl) rfl
theorem wd_1763 : Cond.methodLink "CarHouse$Transfer" 71 ⟨"CarHouse$Transfer", "begin", "(I)V"⟩ ∈ GT := gt_8 (List.mem_of_getElem? (i := 83) rfl) rfl
theorem wd_1765 : Cond.instanceMethod ⟨"CarHouse$Transfer", "begin", "(I)V"⟩ ∈ GT := gt_8 (List.mem_of_getElem? (i := 85) rfl) rfl
theorem wd_1766 : Cond.code ⟨"CarHouse$Transfer", "begin", "(I)V"⟩ prog_11_method_13_code 3 none ∈ GT := gt_8 (List.mem_of_getElem? (i := 86) rfl) rfl
theorem wd_1767 : Cond.methodLink "CarHouse$Transfer" 75 ⟨"CarHouse$Transfer", "goOn", "(II)V"⟩ ∈ GT := gt_8 (List.mem_of_getElem? (i := 87) rfl) rfl
theorem wd_1769 : Cond.instanceMethod ⟨"CarHouse$Transfer", "goOn", "(II)V"⟩ ∈ GT := gt_8 (List.mem_of_getElem? (i := 89) rfl) rfl
theorem wd_1770 : Cond.code ⟨"CarHouse$Transfer", "goOn", "(II)V"⟩ prog_11_method_14_code 5 none ∈ GT := gt_8 (List.mem_of_getElem? (i := 90) rfl) rfl
theorem wd_1771 : Cond.methodLink "CarHouse$Car" 290 ⟨"CarHouse$Car", "putOnBus", "(I)V"⟩ ∈ GT := gt_8 (List.mem_of_getElem? (i := 91) rfl) rfl
theorem wd_1773 : Cond.instanceMethod ⟨"CarHouse$Car", "putOnBus", "(I)V"⟩ ∈ GT := gt_8 (List.mem_of_getElem? (i := 93) rfl) rfl
theorem wd_1774 : Cond.code ⟨"CarHouse$Car", "putOnBus", "(I)V"⟩ prog_3_method_14_code 5 none ∈ GT := gt_8 (List.mem_of_getElem? (i := 94) rfl) rfl
theorem wd_1775 : Cond.methodLink "CarHouse$Car" 297 ⟨"CarHouse$Transfer", "isToTester", "(I)Z"⟩ ∈ GT := gt_8 (List.mem_of_getElem? (i := 95) rfl) rfl
theorem wd_1776 : Cond.methodLink "CarHouse$Car" 300 ⟨"CarHouse$Transfer", "controllerOf", "(I)I"⟩ ∈ GT := gt_8 (List.mem_of_getElem? (i := 96) rfl) rfl
theorem wd_1777 : Cond.methodLink "CarHouse$Car" 303 ⟨"CarHouse$Transfer", "writeOctets", "(I)V"⟩ ∈ GT := gt_8 (List.mem_of_getElem? (i := 97) rfl) rfl
theorem wd_1778 : Cond.instanceMethod ⟨"CarHouse$Transfer", "writeOctets", "(I)V"⟩ ∈ GT := gt_8 (List.mem_of_getElem? (i := 98) rfl) rfl
theorem wd_1779 : Cond.selects "CarHouse$Transfer" ⟨"CarHouse$Transfer", "writeOctets", "(I)V"⟩ ⟨"CarHouse$Transfer", "writeOctets", "(I)V"⟩ ∈ GT := gt_8 (List.mem_of_getElem? (i := 99) rfl) rfl
theorem wd_1780 : Cond.code ⟨"CarHouse$Transfer", "writeOctets", "(I)V"⟩ prog_11_method_15_code 9 none ∈ GT := gt_8 (List.mem_of_getElem? (i := 100) rfl) rfl
theorem wd_1781 : Cond.methodLink "CarHouse$Car" 309 ⟨"CarHouse$Transfer", "lose", "(I)V"⟩ ∈ GT := gt_8 (List.mem_of_getElem? (i := 101) rfl) rfl
theorem wd_1782 : Cond.instanceMethod ⟨"CarHouse$Transfer", "lose", "(I)V"⟩ ∈ GT := gt_8 (List.mem_of_getElem? (i := 102) rfl) rfl
theorem wd_1783 : Cond.selects "CarHouse$Transfer" ⟨"CarHouse$Transfer", "lose", "(I)V"⟩ ⟨"CarHouse$Transfer", "lose", "(I)V"⟩ ∈ GT := gt_8 (List.mem_of_getElem? (i := 103) rfl) rfl
theorem wd_1784 : Cond.code ⟨"CarHouse$Transfer", "lose", "(I)V"⟩ prog_11_method_7_code 2 none ∈ GT := gt_8 (List.mem_of_getElem? (i := 104) rfl) rfl
theorem wd_1785 : Cond.methodLink "CarHouseLaw" 132 ⟨"CarHouseLaw", "bit", "(LCarHouse;I[J)I"⟩ ∈ GT := gt_8 (List.mem_of_getElem? (i := 105) rfl) rfl
theorem wd_1786 : Cond.static ⟨"CarHouseLaw", "bit", "(LCarHouse;I[J)I"⟩ ∈ GT := gt_8 (List.mem_of_getElem? (i := 106) rfl) rfl
theorem wd_1788 : Cond.methodLink "CarHouseLaw" 41 ⟨"CarHouse", "bit", "(I)I"⟩ ∈ GT := gt_8 (List.mem_of_getElem? (i := 108) rfl) rfl
theorem wd_1789 : Cond.instanceMethod ⟨"CarHouse", "bit", "(I)I"⟩ ∈ GT := gt_8 (List.mem_of_getElem? (i := 109) rfl) rfl
theorem wd_1790 : Cond.selects "CarHouse" ⟨"CarHouse", "bit", "(I)I"⟩ ⟨"CarHouse", "bit", "(I)I"⟩ ∈ GT := gt_8 (List.mem_of_getElem? (i := 110) rfl) rfl
theorem wd_1791 : Cond.code ⟨"CarHouse", "bit", "(I)I"⟩ prog_1_method_11_code 2 (some .int) ∈ GT := gt_8 (List.mem_of_getElem? (i := 111) rfl) rfl
theorem wd_1793 : Cond.methodLink "CarHouseLaw" 135 ⟨"CarHouseLaw", "node", "(LCarHouse;II[J)I"⟩ ∈ GT := gt_8 (List.mem_of_getElem? (i := 113) rfl) rfl
theorem wd_1794 : Cond.static ⟨"CarHouseLaw", "node", "(LCarHouse;II[J)I"⟩ ∈ GT := gt_8 (List.mem_of_getElem? (i := 114) rfl) rfl
theorem wd_1796 : Cond.methodLink "CarHouseLaw" 44 ⟨"CarHouse", "node", "(II)I"⟩ ∈ GT := gt_8 (List.mem_of_getElem? (i := 116) rfl) rfl
theorem wd_1797 : Cond.instanceMethod ⟨"CarHouse", "node", "(II)I"⟩ ∈ GT := gt_8 (List.mem_of_getElem? (i := 117) rfl) rfl
theorem wd_1798 : Cond.selects "CarHouse" ⟨"CarHouse", "node", "(II)I"⟩ ⟨"CarHouse", "node", "(II)I"⟩ ∈ GT := gt_8 (List.mem_of_getElem? (i := 118) rfl) rfl
theorem wd_1799 : Cond.code ⟨"CarHouse", "node", "(II)I"⟩ prog_1_method_12_code 4 (some .int) ∈ GT := gt_8 (List.mem_of_getElem? (i := 119) rfl) rfl
theorem wd_1802 : Cond.methodLink "CarHouseLaw" 138 ⟨"CarHouseLaw", "error", "(LCarHouse;II[J)I"⟩ ∈ GT := gt_8 (List.mem_of_getElem? (i := 122) rfl) rfl
theorem wd_1803 : Cond.static ⟨"CarHouseLaw", "error", "(LCarHouse;II[J)I"⟩ ∈ GT := gt_8 (List.mem_of_getElem? (i := 123) rfl) rfl
theorem wd_1805 : Cond.methodLink "CarHouseLaw" 47 ⟨"CarHouse", "error", "(II)I"⟩ ∈ GT := gt_8 (List.mem_of_getElem? (i := 125) rfl) rfl
theorem wd_1806 : Cond.instanceMethod ⟨"CarHouse", "error", "(II)I"⟩ ∈ GT := gt_8 (List.mem_of_getElem? (i := 126) rfl) rfl
theorem wd_1807 : Cond.selects "CarHouse" ⟨"CarHouse", "error", "(II)I"⟩ ⟨"CarHouse", "error", "(II)I"⟩ ∈ GT := gt_8 (List.mem_of_getElem? (i := 127) rfl) rfl
theorem wd_1808 : Cond.code ⟨"CarHouse", "error", "(II)I"⟩ prog_1_method_13_code 4 (some .int) ∈ GT := gt_8 (List.mem_of_getElem? (i := 128) rfl) rfl
theorem wd_1811 : Cond.methodLink "CarHouse" 175 ⟨"CarHouse$Bus", "tellError", "(II)I"⟩ ∈ GT := gt_8 (List.mem_of_getElem? (i := 131) rfl) rfl
theorem wd_1812 : Cond.instanceMethod ⟨"CarHouse$Bus", "tellError", "(II)I"⟩ ∈ GT := gt_8 (List.mem_of_getElem? (i := 132) rfl) rfl
theorem wd_1813 : Cond.selects "CarHouse$Bus" ⟨"CarHouse$Bus", "tellError", "(II)I"⟩ ⟨"CarHouse$Bus", "tellError", "(II)I"⟩ ∈ GT := gt_8 (List.mem_of_getElem? (i := 133) rfl) rfl
theorem wd_1814 : Cond.code ⟨"CarHouse$Bus", "tellError", "(II)I"⟩ prog_2_method_3_code 4 (some .int) ∈ GT := gt_8 (List.mem_of_getElem? (i := 134) rfl) rfl
theorem wd_1815 : Cond.methodLink "CarHouseLaw" 141 ⟨"CarHouseLaw", "flip", "(LCarHouse;II)I"⟩ ∈ GT := gt_8 (List.mem_of_getElem? (i := 135) rfl) rfl
theorem wd_1816 : Cond.static ⟨"CarHouseLaw", "flip", "(LCarHouse;II)I"⟩ ∈ GT := gt_8 (List.mem_of_getElem? (i := 136) rfl) rfl
theorem wd_1818 : Cond.methodLink "CarHouseLaw" 50 ⟨"CarHouse", "flip", "(II)V"⟩ ∈ GT := gt_8 (List.mem_of_getElem? (i := 138) rfl) rfl
theorem wd_1819 : Cond.instanceMethod ⟨"CarHouse", "flip", "(II)V"⟩ ∈ GT := gt_8 (List.mem_of_getElem? (i := 139) rfl) rfl
theorem wd_1820 : Cond.selects "CarHouse" ⟨"CarHouse", "flip", "(II)V"⟩ ⟨"CarHouse", "flip", "(II)V"⟩ ∈ GT := gt_8 (List.mem_of_getElem? (i := 140) rfl) rfl
theorem wd_1821 : Cond.code ⟨"CarHouse", "flip", "(II)V"⟩ prog_1_method_14_code 3 none ∈ GT := gt_8 (List.mem_of_getElem? (i := 141) rfl) rfl
theorem wd_1823 : Cond.methodLink "CarHouseLaw" 145 ⟨"CarHouseLaw", "silence", "(LCarHouse;IZ[J)I"⟩ ∈ GT := gt_8 (List.mem_of_getElem? (i := 143) rfl) rfl
theorem wd_1824 : Cond.static ⟨"CarHouseLaw", "silence", "(LCarHouse;IZ[J)I"⟩ ∈ GT := gt_8 (List.mem_of_getElem? (i := 144) rfl) rfl
theorem wd_1826 : Cond.methodLink "CarHouseLaw" 54 ⟨"CarHouse", "silence", "(IZ)I"⟩ ∈ GT := gt_8 (List.mem_of_getElem? (i := 146) rfl) rfl
theorem wd_1827 : Cond.instanceMethod ⟨"CarHouse", "silence", "(IZ)I"⟩ ∈ GT := gt_8 (List.mem_of_getElem? (i := 147) rfl) rfl
theorem wd_1828 : Cond.selects "CarHouse" ⟨"CarHouse", "silence", "(IZ)I"⟩ ⟨"CarHouse", "silence", "(IZ)I"⟩ ∈ GT := gt_8 (List.mem_of_getElem? (i := 148) rfl) rfl
theorem wd_1829 : Cond.code ⟨"CarHouse", "silence", "(IZ)I"⟩ prog_1_method_15_code 5 (some .int) ∈ GT := gt_8 (List.mem_of_getElem? (i := 149) rfl) rfl
theorem wd_1831 : Cond.methodLink "CarHouseLaw" 148 ⟨"CarHouseLaw", "running", "(LCarHouse;II[J)I"⟩ ∈ GT := gt_8 (List.mem_of_getElem? (i := 151) rfl) rfl
theorem wd_1832 : Cond.static ⟨"CarHouseLaw", "running", "(LCarHouse;II[J)I"⟩ ∈ GT := gt_8 (List.mem_of_getElem? (i := 152) rfl) rfl
theorem wd_1834 : Cond.methodLink "CarHouseLaw" 57 ⟨"CarHouse", "running", "(II)I"⟩ ∈ GT := gt_8 (List.mem_of_getElem? (i := 154) rfl) rfl
theorem wd_1835 : Cond.instanceMethod ⟨"CarHouse", "running", "(II)I"⟩ ∈ GT := gt_8 (List.mem_of_getElem? (i := 155) rfl) rfl
theorem wd_1836 : Cond.selects "CarHouse" ⟨"CarHouse", "running", "(II)I"⟩ ⟨"CarHouse", "running", "(II)I"⟩ ∈ GT := gt_8 (List.mem_of_getElem? (i := 156) rfl) rfl
theorem wd_1837 : Cond.code ⟨"CarHouse", "running", "(II)I"⟩ prog_1_method_16_code 3 (some .int) ∈ GT := gt_8 (List.mem_of_getElem? (i := 157) rfl) rfl
theorem wd_1839 : Cond.methodLink "CarHouse" 192 ⟨"CarHouse$Cores", "whoRan", "(II)I"⟩ ∈ GT := gt_8 (List.mem_of_getElem? (i := 159) rfl) rfl
theorem wd_1840 : Cond.instanceMethod ⟨"CarHouse$Cores", "whoRan", "(II)I"⟩ ∈ GT := gt_8 (List.mem_of_getElem? (i := 160) rfl) rfl
theorem wd_1841 : Cond.selects "CarHouse$Cores" ⟨"CarHouse$Cores", "whoRan", "(II)I"⟩ ⟨"CarHouse$Cores", "whoRan", "(II)I"⟩ ∈ GT := gt_8 (List.mem_of_getElem? (i := 161) rfl) rfl
theorem wd_1842 : Cond.code ⟨"CarHouse$Cores", "whoRan", "(II)I"⟩ prog_6_method_4_code 3 (some .int) ∈ GT := gt_8 (List.mem_of_getElem? (i := 162) rfl) rfl
theorem wd_1843 : Cond.methodLink "CarHouseLaw" 151 ⟨"CarHouseLaw", "task", "(LCarHouse;II[J)I"⟩ ∈ GT := gt_8 (List.mem_of_getElem? (i := 163) rfl) rfl
theorem wd_1844 : Cond.static ⟨"CarHouseLaw", "task", "(LCarHouse;II[J)I"⟩ ∈ GT := gt_8 (List.mem_of_getElem? (i := 164) rfl) rfl
theorem wd_1846 : Cond.methodLink "CarHouseLaw" 60 ⟨"CarHouse", "task", "(II)I"⟩ ∈ GT := gt_8 (List.mem_of_getElem? (i := 166) rfl) rfl
theorem wd_1847 : Cond.instanceMethod ⟨"CarHouse", "task", "(II)I"⟩ ∈ GT := gt_8 (List.mem_of_getElem? (i := 167) rfl) rfl
theorem wd_1848 : Cond.selects "CarHouse" ⟨"CarHouse", "task", "(II)I"⟩ ⟨"CarHouse", "task", "(II)I"⟩ ∈ GT := gt_8 (List.mem_of_getElem? (i := 168) rfl) rfl
theorem wd_1849 : Cond.code ⟨"CarHouse", "task", "(II)I"⟩ prog_1_method_17_code 4 (some .int) ∈ GT := gt_8 (List.mem_of_getElem? (i := 169) rfl) rfl
theorem wd_1852 : Cond.methodLink "CarHouseLaw" 154 ⟨"CarHouseLaw", "active", "(LCarHouse;II[J)I"⟩ ∈ GT := gt_8 (List.mem_of_getElem? (i := 172) rfl) rfl
theorem wd_1853 : Cond.static ⟨"CarHouseLaw", "active", "(LCarHouse;II[J)I"⟩ ∈ GT := gt_8 (List.mem_of_getElem? (i := 173) rfl) rfl
theorem wd_1855 : Cond.methodLink "CarHouseLaw" 63 ⟨"CarHouse", "active", "(II)I"⟩ ∈ GT := gt_8 (List.mem_of_getElem? (i := 175) rfl) rfl
theorem wd_1856 : Cond.instanceMethod ⟨"CarHouse", "active", "(II)I"⟩ ∈ GT := gt_8 (List.mem_of_getElem? (i := 176) rfl) rfl
theorem wd_1857 : Cond.selects "CarHouse" ⟨"CarHouse", "active", "(II)I"⟩ ⟨"CarHouse", "active", "(II)I"⟩ ∈ GT := gt_8 (List.mem_of_getElem? (i := 177) rfl) rfl
theorem wd_1858 : Cond.code ⟨"CarHouse", "active", "(II)I"⟩ prog_1_method_18_code 3 (some .int) ∈ GT := gt_8 (List.mem_of_getElem? (i := 178) rfl) rfl
theorem wd_1859 : Cond.methodLink "CarHouse" 202 ⟨"CarHouse", "hasChart", "(I)Z"⟩ ∈ GT := gt_8 (List.mem_of_getElem? (i := 179) rfl) rfl
theorem wd_1861 : Cond.instanceMethod ⟨"CarHouse", "hasChart", "(I)Z"⟩ ∈ GT := gt_8 (List.mem_of_getElem? (i := 181) rfl) rfl
theorem wd_1862 : Cond.code ⟨"CarHouse", "hasChart", "(I)Z"⟩ prog_1_method_30_code 2 (some .boolean) ∈ GT := gt_8 (List.mem_of_getElem? (i := 182) rfl) rfl
theorem wd_1864 : Cond.methodLink "CarHouse" 220 ⟨"CarHouse$Chart", "innermost", "(I)I"⟩ ∈ GT := gt_8 (List.mem_of_getElem? (i := 184) rfl) rfl
theorem wd_1865 : Cond.instanceMethod ⟨"CarHouse$Chart", "innermost", "(I)I"⟩ ∈ GT := gt_8 (List.mem_of_getElem? (i := 185) rfl) rfl
theorem wd_1866 : Cond.selects "CarHouse$Chart" ⟨"CarHouse$Chart", "innermost", "(I)I"⟩ ⟨"CarHouse$Chart", "innermost", "(I)I"⟩ ∈ GT := gt_8 (List.mem_of_getElem? (i := 186) rfl) rfl
theorem wd_1867 : Cond.code ⟨"CarHouse$Chart", "innermost", "(I)I"⟩ prog_4_method_36_code 4 (some .int) ∈ GT := gt_8 (List.mem_of_getElem? (i := 187) rfl) rfl
theorem wd_1868 : Cond.methodLink "CarHouseLaw" 157 ⟨"CarHouseLaw", "value", "(LCarHouse;II[J)I"⟩ ∈ GT := gt_8 (List.mem_of_getElem? (i := 188) rfl) rfl
theorem wd_1869 : Cond.static ⟨"CarHouseLaw", "value", "(LCarHouse;II[J)I"⟩ ∈ GT := gt_8 (List.mem_of_getElem? (i := 189) rfl) rfl
theorem wd_1871 : Cond.methodLink "CarHouseLaw" 66 ⟨"CarHouse", "value", "(II)J"⟩ ∈ GT := gt_8 (List.mem_of_getElem? (i := 191) rfl) rfl
theorem wd_1872 : Cond.instanceMethod ⟨"CarHouse", "value", "(II)J"⟩ ∈ GT := gt_8 (List.mem_of_getElem? (i := 192) rfl) rfl
theorem wd_1873 : Cond.selects "CarHouse" ⟨"CarHouse", "value", "(II)J"⟩ ⟨"CarHouse", "value", "(II)J"⟩ ∈ GT := gt_8 (List.mem_of_getElem? (i := 193) rfl) rfl
theorem wd_1874 : Cond.code ⟨"CarHouse", "value", "(II)J"⟩ prog_1_method_19_code 3 (some .long) ∈ GT := gt_8 (List.mem_of_getElem? (i := 194) rfl) rfl
theorem wd_1876 : Cond.methodLink "CarHouseLaw" 160 ⟨"CarHouseLaw", "chart", "(LCarHouse;II[J)I"⟩ ∈ GT := gt_8 (List.mem_of_getElem? (i := 196) rfl) rfl
theorem wd_1877 : Cond.static ⟨"CarHouseLaw", "chart", "(LCarHouse;II[J)I"⟩ ∈ GT := gt_8 (List.mem_of_getElem? (i := 197) rfl) rfl
theorem wd_1879 : Cond.methodLink "CarHouseLaw" 70 ⟨"CarHouse", "chart", "(II)I"⟩ ∈ GT := gt_8 (List.mem_of_getElem? (i := 199) rfl) rfl
theorem wd_1880 : Cond.instanceMethod ⟨"CarHouse", "chart", "(II)I"⟩ ∈ GT := gt_8 (List.mem_of_getElem? (i := 200) rfl) rfl
theorem wd_1881 : Cond.selects "CarHouse" ⟨"CarHouse", "chart", "(II)I"⟩ ⟨"CarHouse", "chart", "(II)I"⟩ ∈ GT := gt_8 (List.mem_of_getElem? (i := 201) rfl) rfl
theorem wd_1882 : Cond.code ⟨"CarHouse", "chart", "(II)I"⟩ prog_1_method_20_code 3 (some .int) ∈ GT := gt_8 (List.mem_of_getElem? (i := 202) rfl) rfl
theorem wd_1885 : Cond.methodLink "CarHouse" 242 ⟨"CarHouse$Chart", "covered", "(I)I"⟩ ∈ GT := gt_8 (List.mem_of_getElem? (i := 205) rfl) rfl
theorem wd_1886 : Cond.instanceMethod ⟨"CarHouse$Chart", "covered", "(I)I"⟩ ∈ GT := gt_8 (List.mem_of_getElem? (i := 206) rfl) rfl
theorem wd_1887 : Cond.selects "CarHouse$Chart" ⟨"CarHouse$Chart", "covered", "(I)I"⟩ ⟨"CarHouse$Chart", "covered", "(I)I"⟩ ∈ GT := gt_8 (List.mem_of_getElem? (i := 207) rfl) rfl
theorem wd_1888 : Cond.code ⟨"CarHouse$Chart", "covered", "(I)I"⟩ prog_4_method_37_code 5 (some .int) ∈ GT := gt_8 (List.mem_of_getElem? (i := 208) rfl) rfl
theorem wd_1889 : Cond.methodLink "CarHouseLaw" 163 ⟨"CarHouseLaw", "trouble", "(LCarHouse;II[J)I"⟩ ∈ GT := gt_8 (List.mem_of_getElem? (i := 209) rfl) rfl
theorem wd_1890 : Cond.static ⟨"CarHouseLaw", "trouble", "(LCarHouse;II[J)I"⟩ ∈ GT := gt_8 (List.mem_of_getElem? (i := 210) rfl) rfl
theorem wd_1892 : Cond.methodLink "CarHouseLaw" 73 ⟨"CarHouse", "trouble", "(II)I"⟩ ∈ GT := gt_8 (List.mem_of_getElem? (i := 212) rfl) rfl
theorem wd_1893 : Cond.instanceMethod ⟨"CarHouse", "trouble", "(II)I"⟩ ∈ GT := gt_8 (List.mem_of_getElem? (i := 213) rfl) rfl
theorem wd_1894 : Cond.selects "CarHouse" ⟨"CarHouse", "trouble", "(II)I"⟩ ⟨"CarHouse", "trouble", "(II)I"⟩ ∈ GT := gt_8 (List.mem_of_getElem? (i := 214) rfl) rfl
theorem wd_1895 : Cond.code ⟨"CarHouse", "trouble", "(II)I"⟩ prog_1_method_21_code 3 (some .int) ∈ GT := gt_8 (List.mem_of_getElem? (i := 215) rfl) rfl
theorem wd_1898 : Cond.methodLink "CarHouse" 249 ⟨"CarHouse$Troubles", "tell", "(II)I"⟩ ∈ GT := gt_8 (List.mem_of_getElem? (i := 218) rfl) rfl
theorem wd_1899 : Cond.instanceMethod ⟨"CarHouse$Troubles", "tell", "(II)I"⟩ ∈ GT := gt_8 (List.mem_of_getElem? (i := 219) rfl) rfl
theorem wd_1900 : Cond.selects "CarHouse$Troubles" ⟨"CarHouse$Troubles", "tell", "(II)I"⟩ ⟨"CarHouse$Troubles", "tell", "(II)I"⟩ ∈ GT := gt_8 (List.mem_of_getElem? (i := 220) rfl) rfl
theorem wd_1901 : Cond.code ⟨"CarHouse$Troubles", "tell", "(II)I"⟩ prog_12_method_19_code 3 (some .int) ∈ GT := gt_8 (List.mem_of_getElem? (i := 221) rfl) rfl
theorem wd_1902 : Cond.methodLink "CarHouseLaw" 166 ⟨"CarHouseLaw", "cycle", "(LCarHouse;Z[J)I"⟩ ∈ GT := gt_8 (List.mem_of_getElem? (i := 222) rfl) rfl
theorem wd_1903 : Cond.static ⟨"CarHouseLaw", "cycle", "(LCarHouse;Z[J)I"⟩ ∈ GT := gt_8 (List.mem_of_getElem? (i := 223) rfl) rfl
theorem wd_1905 : Cond.methodLink "CarHouseLaw" 76 ⟨"CarHouse", "cycle", "(Z)I"⟩ ∈ GT := gt_8 (List.mem_of_getElem? (i := 225) rfl) rfl
theorem wd_1906 : Cond.instanceMethod ⟨"CarHouse", "cycle", "(Z)I"⟩ ∈ GT := gt_8 (List.mem_of_getElem? (i := 226) rfl) rfl
theorem wd_1907 : Cond.selects "CarHouse" ⟨"CarHouse", "cycle", "(Z)I"⟩ ⟨"CarHouse", "cycle", "(Z)I"⟩ ∈ GT := gt_8 (List.mem_of_getElem? (i := 227) rfl) rfl
theorem wd_1908 : Cond.code ⟨"CarHouse", "cycle", "(Z)I"⟩ prog_1_method_22_code 2 (some .int) ∈ GT := gt_8 (List.mem_of_getElem? (i := 228) rfl) rfl
theorem wd_1909 : Cond.methodLink "CarHouse" 252 ⟨"CarHouse$Troubles", "endCycle", "(Z)I"⟩ ∈ GT := gt_8 (List.mem_of_getElem? (i := 229) rfl) rfl
theorem wd_1910 : Cond.instanceMethod ⟨"CarHouse$Troubles", "endCycle", "(Z)I"⟩ ∈ GT := gt_8 (List.mem_of_getElem? (i := 230) rfl) rfl
theorem wd_1911 : Cond.selects "CarHouse$Troubles" ⟨"CarHouse$Troubles", "endCycle", "(Z)I"⟩ ⟨"CarHouse$Troubles", "endCycle", "(Z)I"⟩ ∈ GT := gt_8 (List.mem_of_getElem? (i := 231) rfl) rfl
theorem wd_1912 : Cond.code ⟨"CarHouse$Troubles", "endCycle", "(Z)I"⟩ prog_12_method_17_code 3 (some .int) ∈ GT := gt_8 (List.mem_of_getElem? (i := 232) rfl) rfl
theorem wd_1913 : Cond.methodLink "CarHouse$Troubles" 69 ⟨"CarHouse$Troubles", "endGoodCycle", "(IZ)V"⟩ ∈ GT := gt_8 (List.mem_of_getElem? (i := 233) rfl) rfl
theorem wd_1915 : Cond.instanceMethod ⟨"CarHouse$Troubles", "endGoodCycle", "(IZ)V"⟩ ∈ GT := gt_8 (List.mem_of_getElem? (i := 235) rfl) rfl
theorem wd_1916 : Cond.code ⟨"CarHouse$Troubles", "endGoodCycle", "(IZ)V"⟩ prog_12_method_18_code 3 none ∈ GT := gt_8 (List.mem_of_getElem? (i := 236) rfl) rfl
theorem wd_1917 : Cond.methodLink "CarHouseLaw" 170 ⟨"CarHouseLaw", "counted", "(LCarHouse;I[J)I"⟩ ∈ GT := gt_8 (List.mem_of_getElem? (i := 237) rfl) rfl
theorem wd_1918 : Cond.static ⟨"CarHouseLaw", "counted", "(LCarHouse;I[J)I"⟩ ∈ GT := gt_8 (List.mem_of_getElem? (i := 238) rfl) rfl
theorem wd_1920 : Cond.methodLink "CarHouseLaw" 80 ⟨"CarHouse", "counted", "(I)I"⟩ ∈ GT := gt_9 (List.mem_of_getElem? (i := 0) rfl) rfl
theorem wd_1921 : Cond.instanceMethod ⟨"CarHouse", "counted", "(I)I"⟩ ∈ GT := gt_9 (List.mem_of_getElem? (i := 1) rfl) rfl
theorem wd_1922 : Cond.selects "CarHouse" ⟨"CarHouse", "counted", "(I)I"⟩ ⟨"CarHouse", "counted", "(I)I"⟩ ∈ GT := gt_9 (List.mem_of_getElem? (i := 2) rfl) rfl
theorem wd_1923 : Cond.code ⟨"CarHouse", "counted", "(I)I"⟩ prog_1_method_23_code 2 (some .int) ∈ GT := gt_9 (List.mem_of_getElem? (i := 3) rfl) rfl
theorem wd_1925 : Cond.methodLink "CarHouseLaw" 178 ⟨"CarHouseLaw", "ask", "(LCarHouse;I[J)I"⟩ ∈ GT := gt_9 (List.mem_of_getElem? (i := 5) rfl) rfl
theorem wd_1926 : Cond.static ⟨"CarHouseLaw", "ask", "(LCarHouse;I[J)I"⟩ ∈ GT := gt_9 (List.mem_of_getElem? (i := 6) rfl) rfl
theorem wd_1928 : Cond.methodLink "CarHouseLaw" 83 ⟨"CarHouse", "ask", "(I)I"⟩ ∈ GT := gt_9 (List.mem_of_getElem? (i := 8) rfl) rfl
theorem wd_1929 : Cond.instanceMethod ⟨"CarHouse", "ask", "(I)I"⟩ ∈ GT := gt_9 (List.mem_of_getElem? (i := 9) rfl) rfl
theorem wd_1930 : Cond.selects "CarHouse" ⟨"CarHouse", "ask", "(I)I"⟩ ⟨"CarHouse", "ask", "(I)I"⟩ ∈ GT := gt_9 (List.mem_of_getElem? (i := 10) rfl) rfl
theorem wd_1931 : Cond.code ⟨"CarHouse", "ask", "(I)I"⟩ prog_1_method_25_code 3 (some .int) ∈ GT := gt_9 (List.mem_of_getElem? (i := 11) rfl) rfl
theorem wd_1933 : Cond.methodLink "CarHouse" 278 ⟨"CarHouse$Transfer", "make", "(IZ[II)V"⟩ ∈ GT := gt_9 (List.mem_of_getElem? (i := 13) rfl) rfl
theorem wd_1934 : Cond.methodLink "CarHouseLaw" 185 ⟨"CarHouseLaw", "answer", "(LCarHouse;I[J)I"⟩ ∈ GT := gt_9 (List.mem_of_getElem? (i := 14) rfl) rfl
theorem wd_1935 : Cond.static ⟨"CarHouseLaw", "answer", "(LCarHouse;I[J)I"⟩ ∈ GT := gt_9 (List.mem_of_getElem? (i := 15) rfl) rfl
theorem wd_1937 : Cond.methodLink "CarHouseLaw" 86 ⟨"CarHouse", "answer", "(I)I"⟩ ∈ GT := gt_9 (List.mem_of_getElem? (i := 17) rfl) rfl
theorem wd_1938 : Cond.instanceMethod ⟨"CarHouse", "answer", "(I)I"⟩ ∈ GT := gt_9 (List.mem_of_getElem? (i := 18) rfl) rfl
theorem wd_1939 : Cond.selects "CarHouse" ⟨"CarHouse", "answer", "(I)I"⟩ ⟨"CarHouse", "answer", "(I)I"⟩ ∈ GT := gt_9 (List.mem_of_getElem? (i := 19) rfl) rfl
theorem wd_1940 : Cond.code ⟨"CarHouse", "answer", "(I)I"⟩ prog_1_method_27_code 2 (some .int) ∈ GT := gt_9 (List.mem_of_getElem? (i := 20) rfl) rfl
theorem wd_1942 : Cond.classLink "CarHouseLaw" 90 "CarHouseModel" ∈ GT := gt_9 (List.mem_of_getElem? (i := 22) rfl) rfl
theorem wd_1943 : Cond.instantiable "CarHouseModel" 112 ∈ GT := gt_9 (List.mem_of_getElem? (i := 23) rfl) rfl
theorem wd_1944 : Cond.methodLink "CarHouseLaw" 92 ⟨"CarHouseModel", "<init>", "()V"⟩ ∈ GT := gt_9 (List.mem_of_getElem? (i := 24) rfl) rfl
theorem wd_1945 : Cond.instanceMethod ⟨"CarHouseModel", "<init>", "()V"⟩ ∈ GT := gt_9 (List.mem_of_getElem? (i := 25) rfl) rfl
theorem wd_1946 : Cond.code ⟨"CarHouseModel", "<init>", "()V"⟩ prog_14_method_1_code 4 none ∈ GT := gt_9 (List.mem_of_getElem? (i := 26) rfl) rfl
theorem wd_1947 : Cond.methodLink "CarHouseModel" 1 ⟨"java/lang/Object", "<init>", "()V"⟩ ∈ GT := gt_9 (List.mem_of_getElem? (i := 27) rfl) rfl
theorem wd_1948 : Cond.classLink "CarHouseModel" 174 "CarHouseModel$Cores" ∈ GT := gt_9 (List.mem_of_getElem? (i := 28) rfl) rfl
theorem wd_1949 : Cond.instantiable "CarHouseModel$Cores" 45 ∈ GT := gt_9 (List.mem_of_getElem? (i := 29) rfl) rfl
theorem nd_1950 : Cond.methodLinkNest "CarHouseModel" 176 ⟨"CarHouseModel$Cores", "<init>", "()V"⟩ "CarHouseModel" ∈ NT := gn_9 (List.mem_of_getElem? (i := 30) rfl) rfl
theorem wd_1951 : Cond.instanceMethod ⟨"CarHouseModel$Cores", "<init>", "()V"⟩ ∈ GT := gt_9 (List.mem_of_getElem? (i := 31) rfl) rfl
theorem wd_1952 : Cond.code ⟨"CarHouseModel$Cores", "<init>", "()V"⟩ prog_18_method_1_code 1 none ∈ GT := gt_9 (List.mem_of_getElem? (i := 32) rfl) rfl
theorem wd_1953 : Cond.methodLink "CarHouseModel$Cores" 1 ⟨"java/lang/Object", "<init>", "()V"⟩ ∈ GT := gt_9 (List.mem_of_getElem? (i := 33) rfl) rfl
theorem wd_1954 : Cond.constant "CarHouseModel$Cores" 108 120000 ∈ GT := gt_9 (List.mem_of_getElem? (i := 34) rfl) rfl
theorem wd_1955 : Cond.fieldLink "CarHouseModel$Cores" 113 "CarHouseModel$Cores" "cores" "I" ∈ GT := gt_9 (List.mem_of_getElem? (i := 35) rfl) rfl
theorem wd_1956 : Cond.fieldLink "CarHouseModel$Cores" 117 "CarHouseModel$Cores" "tasks" "I" ∈ GT := gt_9 (List.mem_of_getElem? (i := 36) rfl) rfl
theorem wd_1957 : Cond.fieldLink "CarHouseModel$Cores" 7 "CarHouseModel$Cores" "rank" "[I" ∈ GT := gt_9 (List.mem_of_getElem? (i := 37) rfl) rfl
theorem wd_1958 : Cond.fieldLink "CarHouseModel$Cores" 13 "CarHouseModel$Cores" "core" "[I" ∈ GT := gt_9 (List.mem_of_getElem? (i := 38) rfl) rfl
theorem wd_1959 : Cond.fieldLink "CarHouseModel$Cores" 16 "CarHouseModel$Cores" "bound" "[I" ∈ GT := gt_9 (List.mem_of_getElem? (i := 39) rfl) rfl
theorem wd_1960 : Cond.fieldLink "CarHouseModel$Cores" 19 "CarHouseModel$Cores" "extended" "[Z" ∈ GT := gt_9 (List.mem_of_getElem? (i := 40) rfl) rfl
theorem wd_1961 : Cond.fieldLink "CarHouseModel$Cores" 23 "CarHouseModel$Cores" "full" "[Z" ∈ GT := gt_9 (List.mem_of_getElem? (i := 41) rfl) rfl
theorem wd_1962 : Cond.fieldLink "CarHouseModel$Cores" 120 "CarHouseModel$Cores" "parts" "I" ∈ GT := gt_9 (List.mem_of_getElem? (i := 42) rfl) rfl
theorem wd_1963 : Cond.fieldLink "CarHouseModel$Cores" 26 "CarHouseModel$Cores" "partOf" "[I" ∈ GT := gt_9 (List.mem_of_getElem? (i := 43) rfl) rfl
theorem wd_1964 : Cond.fieldLink "CarHouseModel$Cores" 29 "CarHouseModel$Cores" "partKind" "[I" ∈ GT := gt_9 (List.mem_of_getElem? (i := 44) rfl) rfl
theorem wd_1965 : Cond.fieldLink "CarHouseModel$Cores" 32 "CarHouseModel$Cores" "partV" "[J" ∈ GT := gt_9 (List.mem_of_getElem? (i := 45) rfl) rfl
theorem wd_1966 : Cond.fieldLink "CarHouseModel$Cores" 36 "CarHouseModel$Cores" "state" "[I" ∈ GT := gt_9 (List.mem_of_getElem? (i := 46) rfl) rfl
theorem wd_1967 : Cond.fieldLink "CarHouseModel$Cores" 39 "CarHouseModel$Cores" "turn" "[J" ∈ GT := gt_9 (List.mem_of_getElem? (i := 47) rfl) rfl
theorem wd_1968 : Cond.fieldLink "CarHouseModel$Cores" 42 "CarHouseModel$Cores" "wanted" "[I" ∈ GT := gt_9 (List.mem_of_getElem? (i := 48) rfl) rfl
theorem wd_1969 : Cond.fieldLink "CarHouseModel$Cores" 45 "CarHouseModel$Cores" "next" "[I" ∈ GT := gt_9 (List.mem_of_getElem? (i := 49) rfl) rfl
theorem wd_1970 : Cond.fieldLink "CarHouseModel$Cores" 48 "CarHouseModel$Cores" "left" "[J" ∈ GT := gt_9 (List.mem_of_getElem? (i := 50) rfl) rfl
theorem wd_1971 : Cond.fieldLink "CarHouseModel$Cores" 51 "CarHouseModel$Cores" "starts" "[Z" ∈ GT := gt_9 (List.mem_of_getElem? (i := 51) rfl) rfl
theorem wd_1972 : Cond.fieldLink "CarHouseModel$Cores" 54 "CarHouseModel$Cores" "events" "[I" ∈ GT := gt_9 (List.mem_of_getElem? (i := 52) rfl) rfl
theorem wd_1973 : Cond.fieldLink "CarHouseModel$Cores" 57 "CarHouseModel$Cores" "awaited" "[I" ∈ GT := gt_9 (List.mem_of_getElem? (i := 53) rfl) rfl
theorem wd_1974 : Cond.fieldLink "CarHouseModel$Cores" 60 "CarHouseModel$Cores" "yields" "[Z" ∈ GT := gt_9 (List.mem_of_getElem? (i := 54) rfl) rfl
theorem wd_1975 : Cond.fieldLink "CarHouseModel$Cores" 63 "CarHouseModel$Cores" "used" "[J" ∈ GT := gt_9 (List.mem_of_getElem? (i := 55) rfl) rfl
theorem wd_1976 : Cond.fieldLink "CarHouseModel$Cores" 123 "CarHouseModel$Cores" "turns" "J" ∈ GT := gt_9 (List.mem_of_getElem? (i := 56) rfl) rfl
theorem wd_1977 : Cond.fieldLink "CarHouseModel$Cores" 66 "CarHouseModel$Cores" "holder" "[I" ∈ GT := gt_9 (List.mem_of_getElem? (i := 57) rfl) rfl
theorem wd_1978 : Cond.fieldLink "CarHouseModel$Cores" 69 "CarHouseModel$Cores" "gotAt" "[J" ∈ GT := gt_9 (List.mem_of_getElem? (i := 58) rfl) rfl
theorem wd_1979 : Cond.fieldLink "CarHouseModel$Cores" 72 "CarHouseModel$Cores" "ceiling" "[I" ∈ GT := gt_9 (List.mem_of_getElem? (i := 59) rfl) rfl
theorem wd_1980 : Cond.fieldLink "CarHouseModel$Cores" 75 "CarHouseModel$Cores" "owner" "[I" ∈ GT := gt_9 (List.mem_of_getElem? (i := 60) rfl) rfl
theorem wd_1981 : Cond.fieldLink "CarHouseModel$Cores" 78 "CarHouseModel$Cores" "spins" "[I" ∈ GT := gt_9 (List.mem_of_getElem? (i := 61) rfl) rfl
theorem wd_1982 : Cond.fieldLink "CarHouseModel$Cores" 81 "CarHouseModel$Cores" "spinsSince" "[J" ∈ GT := gt_9 (List.mem_of_getElem? (i := 62) rfl) rfl
theorem wd_1983 : Cond.fieldLink "CarHouseModel$Cores" 127 "CarHouseModel$Cores" "orders" "J" ∈ GT := gt_9 (List.mem_of_getElem? (i := 63) rfl) rfl
theorem wd_1984 : Cond.fieldLink "CarHouseModel$Cores" 130 "CarHouseModel$Cores" "offBy" "I" ∈ GT := gt_9 (List.mem_of_getElem? (i := 64) rfl) rfl
theorem wd_1985 : Cond.fieldLink "CarHouseModel$Cores" 206 "CarHouseModel$Cores" "offEnd" "J" ∈ GT := gt_9 (List.mem_of_getElem? (i := 65) rfl) rfl
theorem wd_1986 : Cond.fieldLink "CarHouseModel$Cores" 133 "CarHouseModel$Cores" "offTold" "Z" ∈ GT := gt_9 (List.mem_of_getElem? (i := 66) rfl) rfl
theorem wd_1987 : Cond.fieldLink "CarHouseModel$Cores" 137 "CarHouseModel$Cores" "alarms" "I" ∈ GT := gt_9 (List.mem_of_getElem? (i := 67) rfl) rfl
theorem wd_1988 : Cond.fieldLink "CarHouseModel$Cores" 84 "CarHouseModel$Cores" "alarmTask" "[I" ∈ GT := gt_9 (List.mem_of_getElem? (i := 68) rfl) rfl
theorem wd_1989 : Cond.fieldLink "CarHouseModel$Cores" 87 "CarHouseModel$Cores" "alarmAt" "[J" ∈ GT := gt_9 (List.mem_of_getElem? (i := 69) rfl) rfl
theorem wd_1990 : Cond.fieldLink "CarHouseModel$Cores" 140 "CarHouseModel$Cores" "interrupts" "I" ∈ GT := gt_9 (List.mem_of_getElem? (i := 70) rfl) rfl
theorem wd_1991 : Cond.fieldLink "CarHouseModel$Cores" 90 "CarHouseModel$Cores" "level" "[I" ∈ GT := gt_9 (List.mem_of_getElem? (i := 71) rfl) rfl
theorem wd_1992 : Cond.fieldLink "CarHouseModel$Cores" 93 "CarHouseModel$Cores" "comes" "[J" ∈ GT := gt_9 (List.mem_of_getElem? (i := 72) rfl) rfl
theorem wd_1993 : Cond.fieldLink "CarHouseModel$Cores" 96 "CarHouseModel$Cores" "rest" "[J" ∈ GT := gt_9 (List.mem_of_getElem? (i := 73) rfl) rfl
theorem wd_1994 : Cond.fieldLink "CarHouseModel$Cores" 143 "CarHouseModel$Cores" "codes" "I" ∈ GT := gt_9 (List.mem_of_getElem? (i := 74) rfl) rfl
theorem wd_1995 : Cond.fieldLink "CarHouseModel$Cores" 99 "CarHouseModel$Cores" "codeKind" "[I" ∈ GT := gt_9 (List.mem_of_getElem? (i := 75) rfl) rfl
theorem wd_1996 : Cond.fieldLink "CarHouseModel$Cores" 102 "CarHouseModel$Cores" "codeTask" "[I" ∈ GT := gt_9 (List.mem_of_getElem? (i := 76) rfl) rfl
theorem wd_1997 : Cond.fieldLink "CarHouseModel$Cores" 105 "CarHouseModel$Cores" "codeAt" "[J" ∈ GT := gt_9 (List.mem_of_getElem? (i := 77) rfl) rfl
theorem wd_1998 : Cond.fieldLink "CarHouseModel$Cores" 146 "CarHouseModel$Cores" "now" "J" ∈ GT := gt_9 (List.mem_of_getElem? (i := 78) rfl) rfl
theorem wd_1999 : Cond.fieldLink "CarHouseModel$Cores" 109 "CarHouseModel$Cores" "who" "[S" ∈ GT := gt_9 (List.mem_of_getElem? (i := 79) rfl) rfl
theorem wd_2000 : Cond.lays "CarHouseModel$Cores" "CarHouseModel$Cores" "cores" "I" ∈ GT := gt_9 (List.mem_of_getElem? (i := 80) rfl) rfl
theorem wd_2002 : Cond.lays "CarHouseModel$Cores" "CarHouseModel$Cores" "tasks" "I" ∈ GT := gt_9 (List.mem_of_getElem? (i := 82) rfl) rfl
theorem wd_2004 : Cond.laysFinal "CarHouseModel$Cores" "CarHouseModel$Cores" "rank" "[I" ∈ GT := gt_9 (List.mem_of_getElem? (i := 84) rfl) rfl
theorem wd_2006 : Cond.laysFinal "CarHouseModel$Cores" "CarHouseModel$Cores" "core" "[I" ∈ GT := gt_9 (List.mem_of_getElem? (i := 86) rfl) rfl
theorem wd_2008 : Cond.laysFinal "CarHouseModel$Cores" "CarHouseModel$Cores" "bound" "[I" ∈ GT := gt_9 (List.mem_of_getElem? (i := 88) rfl) rfl
theorem wd_2010 : Cond.laysFinal "CarHouseModel$Cores" "CarHouseModel$Cores" "extended" "[Z" ∈ GT := gt_9 (List.mem_of_getElem? (i := 90) rfl) rfl
theorem wd_2012 : Cond.laysFinal "CarHouseModel$Cores" "CarHouseModel$Cores" "full" "[Z" ∈ GT := gt_9 (List.mem_of_getElem? (i := 92) rfl) rfl
theorem wd_2014 : Cond.lays "CarHouseModel$Cores" "CarHouseModel$Cores" "parts" "I" ∈ GT := gt_9 (List.mem_of_getElem? (i := 94) rfl) rfl
theorem wd_2016 : Cond.laysFinal "CarHouseModel$Cores" "CarHouseModel$Cores" "partOf" "[I" ∈ GT := gt_9 (List.mem_of_getElem? (i := 96) rfl) rfl
theorem wd_2018 : Cond.laysFinal "CarHouseModel$Cores" "CarHouseModel$Cores" "partKind" "[I" ∈ GT := gt_9 (List.mem_of_getElem? (i := 98) rfl) rfl
theorem wd_2020 : Cond.laysFinal "CarHouseModel$Cores" "CarHouseModel$Cores" "partV" "[J" ∈ GT := gt_9 (List.mem_of_getElem? (i := 100) rfl) rfl
theorem wd_2022 : Cond.laysFinal "CarHouseModel$Cores" "CarHouseModel$Cores" "state" "[I" ∈ GT := gt_9 (List.mem_of_getElem? (i := 102) rfl) rfl
theorem wd_2024 : Cond.laysFinal "CarHouseModel$Cores" "CarHouseModel$Cores" "turn" "[J" ∈ GT := gt_9 (List.mem_of_getElem? (i := 104) rfl) rfl
theorem wd_2026 : Cond.laysFinal "CarHouseModel$Cores" "CarHouseModel$Cores" "wanted" "[I" ∈ GT := gt_9 (List.mem_of_getElem? (i := 106) rfl) rfl
theorem wd_2028 : Cond.laysFinal "CarHouseModel$Cores" "CarHouseModel$Cores" "next" "[I" ∈ GT := gt_9 (List.mem_of_getElem? (i := 108) rfl) rfl
theorem wd_2030 : Cond.laysFinal "CarHouseModel$Cores" "CarHouseModel$Cores" "left" "[J" ∈ GT := gt_9 (List.mem_of_getElem? (i := 110) rfl) rfl
theorem wd_2032 : Cond.laysFinal "CarHouseModel$Cores" "CarHouseModel$Cores" "starts" "[Z" ∈ GT := gt_9 (List.mem_of_getElem? (i := 112) rfl) rfl
theorem wd_2034 : Cond.laysFinal "CarHouseModel$Cores" "CarHouseModel$Cores" "events" "[I" ∈ GT := gt_9 (List.mem_of_getElem? (i := 114) rfl) rfl
theorem wd_2036 : Cond.laysFinal "CarHouseModel$Cores" "CarHouseModel$Cores" "awaited" "[I" ∈ GT := gt_9 (List.mem_of_getElem? (i := 116) rfl) rfl
theorem wd_2038 : Cond.laysFinal "CarHouseModel$Cores" "CarHouseModel$Cores" "yields" "[Z" ∈ GT := gt_9 (List.mem_of_getElem? (i := 118) rfl) rfl
theorem wd_2040 : Cond.laysFinal "CarHouseModel$Cores" "CarHouseModel$Cores" "used" "[J" ∈ GT := gt_9 (List.mem_of_getElem? (i := 120) rfl) rfl
theorem wd_2042 : Cond.lays "CarHouseModel$Cores" "CarHouseModel$Cores" "turns" "J" ∈ GT := gt_9 (List.mem_of_getElem? (i := 122) rfl) rfl
theorem wd_2044 : Cond.laysFinal "CarHouseModel$Cores" "CarHouseModel$Cores" "holder" "[I" ∈ GT := gt_9 (List.mem_of_getElem? (i := 124) rfl) rfl
theorem wd_2046 : Cond.laysFinal "CarHouseModel$Cores" "CarHouseModel$Cores" "gotAt" "[J" ∈ GT := gt_9 (List.mem_of_getElem? (i := 126) rfl) rfl
theorem wd_2048 : Cond.laysFinal "CarHouseModel$Cores" "CarHouseModel$Cores" "ceiling" "[I" ∈ GT := gt_9 (List.mem_of_getElem? (i := 128) rfl) rfl
theorem wd_2050 : Cond.laysFinal "CarHouseModel$Cores" "CarHouseModel$Cores" "owner" "[I" ∈ GT := gt_9 (List.mem_of_getElem? (i := 130) rfl) rfl
theorem wd_2052 : Cond.laysFinal "CarHouseModel$Cores" "CarHouseModel$Cores" "spins" "[I" ∈ GT := gt_9 (List.mem_of_getElem? (i := 132) rfl) rfl
theorem wd_2054 : Cond.laysFinal "CarHouseModel$Cores" "CarHouseModel$Cores" "spinsSince" "[J" ∈ GT := gt_9 (List.mem_of_getElem? (i := 134) rfl) rfl
theorem wd_2056 : Cond.lays "CarHouseModel$Cores" "CarHouseModel$Cores" "orders" "J" ∈ GT := gt_9 (List.mem_of_getElem? (i := 136) rfl) rfl
theorem wd_2058 : Cond.lays "CarHouseModel$Cores" "CarHouseModel$Cores" "offBy" "I" ∈ GT := gt_9 (List.mem_of_getElem? (i := 138) rfl) rfl
theorem wd_2060 : Cond.lays "CarHouseModel$Cores" "CarHouseModel$Cores" "offEnd" "J" ∈ GT := gt_9 (List.mem_of_getElem? (i := 140) rfl) rfl
theorem wd_2062 : Cond.lays "CarHouseModel$Cores" "CarHouseModel$Cores" "offTold" "Z" ∈ GT := gt_9 (List.mem_of_getElem? (i := 142) rfl) rfl
theorem wd_2064 : Cond.lays "CarHouseModel$Cores" "CarHouseModel$Cores" "alarms" "I" ∈ GT := gt_9 (List.mem_of_getElem? (i := 144) rfl) rfl
theorem wd_2066 : Cond.laysFinal "CarHouseModel$Cores" "CarHouseModel$Cores" "alarmTask" "[I" ∈ GT := gt_9 (List.mem_of_getElem? (i := 146) rfl) rfl
theorem wd_2068 : Cond.laysFinal "CarHouseModel$Cores" "CarHouseModel$Cores" "alarmAt" "[J" ∈ GT := gt_9 (List.mem_of_getElem? (i := 148) rfl) rfl
theorem wd_2070 : Cond.lays "CarHouseModel$Cores" "CarHouseModel$Cores" "interrupts" "I" ∈ GT := gt_9 (List.mem_of_getElem? (i := 150) rfl) rfl
theorem wd_2072 : Cond.laysFinal "CarHouseModel$Cores" "CarHouseModel$Cores" "level" "[I" ∈ GT := gt_9 (List.mem_of_getElem? (i := 152) rfl) rfl
theorem wd_2074 : Cond.laysFinal "CarHouseModel$Cores" "CarHouseModel$Cores" "comes" "[J" ∈ GT := gt_9 (List.mem_of_getElem? (i := 154) rfl) rfl
theorem wd_2076 : Cond.laysFinal "CarHouseModel$Cores" "CarHouseModel$Cores" "rest" "[J" ∈ GT := gt_9 (List.mem_of_getElem? (i := 156) rfl) rfl
theorem wd_2078 : Cond.lays "CarHouseModel$Cores" "CarHouseModel$Cores" "codes" "I" ∈ GT := gt_9 (List.mem_of_getElem? (i := 158) rfl) rfl
theorem wd_2080 : Cond.laysFinal "CarHouseModel$Cores" "CarHouseModel$Cores" "codeKind" "[I" ∈ GT := gt_9 (List.mem_of_getElem? (i := 160) rfl) rfl
theorem wd_2082 : Cond.laysFinal "CarHouseModel$Cores" "CarHouseModel$Cores" "codeTask" "[I" ∈ GT := gt_9 (List.mem_of_getElem? (i := 162) rfl) rfl
theorem wd_2084 : Cond.laysFinal "CarHouseModel$Cores" "CarHouseModel$Cores" "codeAt" "[J" ∈ GT := gt_9 (List.mem_of_getElem? (i := 164) rfl) rfl
theorem wd_2086 : Cond.lays "CarHouseModel$Cores" "CarHouseModel$Cores" "now" "J" ∈ GT := gt_9 (List.mem_of_getElem? (i := 166) rfl) rfl
theorem wd_2088 : Cond.laysFinal "CarHouseModel$Cores" "CarHouseModel$Cores" "who" "[S" ∈ GT := gt_9 (List.mem_of_getElem? (i := 168) rfl) rfl
theorem wd_2091 : Cond.arrayClass .short ∈ GT := gt_9 (List.mem_of_getElem? (i := 171) rfl) rfl
theorem wd_2092 : Cond.classLink "CarHouseModel" 181 "CarHouseModel$Bus" ∈ GT := gt_9 (List.mem_of_getElem? (i := 172) rfl) rfl
theorem wd_2093 : Cond.instantiable "CarHouseModel$Bus" 51 ∈ GT := gt_9 (List.mem_of_getElem? (i := 173) rfl) rfl
theorem wd_2094 : Cond.methodLink "CarHouseModel" 183 ⟨"CarHouseModel$Bus", "<init>", "()V"⟩ ∈ GT := gt_9 (List.mem_of_getElem? (i := 174) rfl) rfl
theorem wd_2095 : Cond.instanceMethod ⟨"CarHouseModel$Bus", "<init>", "()V"⟩ ∈ GT := gt_9 (List.mem_of_getElem? (i := 175) rfl) rfl
theorem wd_2096 : Cond.code ⟨"CarHouseModel$Bus", "<init>", "()V"⟩ prog_15_method_1_code 1 none ∈ GT := gt_9 (List.mem_of_getElem? (i := 176) rfl) rfl
theorem wd_2097 : Cond.methodLink "CarHouseModel$Bus" 1 ⟨"java/lang/Object", "<init>", "()V"⟩ ∈ GT := gt_9 (List.mem_of_getElem? (i := 177) rfl) rfl
theorem wd_2098 : Cond.constant "CarHouseModel$Bus" 64 140000 ∈ GT := gt_9 (List.mem_of_getElem? (i := 178) rfl) rfl
theorem wd_2099 : Cond.constant "CarHouseModel$Bus" 83 256000 ∈ GT := gt_9 (List.mem_of_getElem? (i := 179) rfl) rfl
theorem wd_2100 : Cond.fieldLink "CarHouseModel$Bus" 120 "CarHouseModel$Bus" "code" "I" ∈ GT := gt_9 (List.mem_of_getElem? (i := 180) rfl) rfl
theorem wd_2101 : Cond.fieldLink "CarHouseModel$Bus" 7 "CarHouseModel$Bus" "nodes" "I" ∈ GT := gt_9 (List.mem_of_getElem? (i := 181) rfl) rfl
theorem wd_2102 : Cond.fieldLink "CarHouseModel$Bus" 123 "CarHouseModel$Bus" "time" "I" ∈ GT := gt_9 (List.mem_of_getElem? (i := 182) rfl) rfl
theorem wd_2103 : Cond.fieldLink "CarHouseModel$Bus" 13 "CarHouseModel$Bus" "bus" "[B" ∈ GT := gt_9 (List.mem_of_getElem? (i := 183) rfl) rfl
theorem wd_2104 : Cond.fieldLink "CarHouseModel$Bus" 126 "CarHouseModel$Bus" "frames" "I" ∈ GT := gt_9 (List.mem_of_getElem? (i := 184) rfl) rfl
theorem wd_2105 : Cond.fieldLink "CarHouseModel$Bus" 17 "CarHouseModel$Bus" "owner" "[I" ∈ GT := gt_9 (List.mem_of_getElem? (i := 185) rfl) rfl
theorem wd_2106 : Cond.fieldLink "CarHouseModel$Bus" 21 "CarHouseModel$Bus" "identifier" "[I" ∈ GT := gt_9 (List.mem_of_getElem? (i := 186) rfl) rfl
theorem wd_2107 : Cond.fieldLink "CarHouseModel$Bus" 24 "CarHouseModel$Bus" "kind" "[I" ∈ GT := gt_9 (List.mem_of_getElem? (i := 187) rfl) rfl
theorem wd_2108 : Cond.fieldLink "CarHouseModel$Bus" 27 "CarHouseModel$Bus" "length" "[I" ∈ GT := gt_9 (List.mem_of_getElem? (i := 188) rfl) rfl
theorem wd_2109 : Cond.fieldLink "CarHouseModel$Bus" 30 "CarHouseModel$Bus" "octets" "[I" ∈ GT := gt_9 (List.mem_of_getElem? (i := 189) rfl) rfl
theorem wd_2110 : Cond.fieldLink "CarHouseModel$Bus" 33 "CarHouseModel$Bus" "isDone" "[Z" ∈ GT := gt_9 (List.mem_of_getElem? (i := 190) rfl) rfl
theorem wd_2111 : Cond.fieldLink "CarHouseModel$Bus" 129 "CarHouseModel$Bus" "dones" "I" ∈ GT := gt_9 (List.mem_of_getElem? (i := 191) rfl) rfl
theorem wd_2112 : Cond.fieldLink "CarHouseModel$Bus" 37 "CarHouseModel$Bus" "doneFrame" "[I" ∈ GT := gt_9 (List.mem_of_getElem? (i := 192) rfl) rfl
theorem wd_2113 : Cond.fieldLink "CarHouseModel$Bus" 40 "CarHouseModel$Bus" "doneTime" "[I" ∈ GT := gt_9 (List.mem_of_getElem? (i := 193) rfl) rfl
theorem wd_2114 : Cond.fieldLink "CarHouseModel$Bus" 43 "CarHouseModel$Bus" "state" "[I" ∈ GT := gt_9 (List.mem_of_getElem? (i := 194) rfl) rfl
theorem wd_2115 : Cond.fieldLink "CarHouseModel$Bus" 46 "CarHouseModel$Bus" "left" "[I" ∈ GT := gt_9 (List.mem_of_getElem? (i := 195) rfl) rfl
theorem wd_2116 : Cond.fieldLink "CarHouseModel$Bus" 49 "CarHouseModel$Bus" "sends" "[I" ∈ GT := gt_9 (List.mem_of_getElem? (i := 196) rfl) rfl
theorem wd_2117 : Cond.fieldLink "CarHouseModel$Bus" 52 "CarHouseModel$Bus" "mask" "[I" ∈ GT := gt_9 (List.mem_of_getElem? (i := 197) rfl) rfl
theorem wd_2118 : Cond.fieldLink "CarHouseModel$Bus" 55 "CarHouseModel$Bus" "match" "[I" ∈ GT := gt_9 (List.mem_of_getElem? (i := 198) rfl) rfl
theorem wd_2119 : Cond.fieldLink "CarHouseModel$Bus" 58 "CarHouseModel$Bus" "seenCount" "[I" ∈ GT := gt_9 (List.mem_of_getElem? (i := 199) rfl) rfl
theorem wd_2120 : Cond.fieldLink "CarHouseModel$Bus" 61 "CarHouseModel$Bus" "seen" "[B" ∈ GT := gt_9 (List.mem_of_getElem? (i := 200) rfl) rfl
theorem wd_2121 : Cond.fieldLink "CarHouseModel$Bus" 65 "CarHouseModel$Bus" "flip" "[Z" ∈ GT := gt_9 (List.mem_of_getElem? (i := 201) rfl) rfl
theorem wd_2122 : Cond.fieldLink "CarHouseModel$Bus" 132 "CarHouseModel$Bus" "takens" "I" ∈ GT := gt_9 (List.mem_of_getElem? (i := 202) rfl) rfl
theorem wd_2123 : Cond.fieldLink "CarHouseModel$Bus" 68 "CarHouseModel$Bus" "takenNode" "[I" ∈ GT := gt_9 (List.mem_of_getElem? (i := 203) rfl) rfl
theorem wd_2124 : Cond.fieldLink "CarHouseModel$Bus" 71 "CarHouseModel$Bus" "takenIdentifier" "[I" ∈ GT := gt_9 (List.mem_of_getElem? (i := 204) rfl) rfl
theorem wd_2125 : Cond.fieldLink "CarHouseModel$Bus" 74 "CarHouseModel$Bus" "takenKind" "[B" ∈ GT := gt_9 (List.mem_of_getElem? (i := 205) rfl) rfl
theorem wd_2126 : Cond.fieldLink "CarHouseModel$Bus" 77 "CarHouseModel$Bus" "takenLength" "[B" ∈ GT := gt_9 (List.mem_of_getElem? (i := 206) rfl) rfl
theorem wd_2127 : Cond.fieldLink "CarHouseModel$Bus" 80 "CarHouseModel$Bus" "takenTime" "[I" ∈ GT := gt_9 (List.mem_of_getElem? (i := 207) rfl) rfl
theorem wd_2128 : Cond.fieldLink "CarHouseModel$Bus" 84 "CarHouseModel$Bus" "takenOctets" "[B" ∈ GT := gt_9 (List.mem_of_getElem? (i := 208) rfl) rfl
theorem wd_2129 : Cond.fieldLink "CarHouseModel$Bus" 135 "CarHouseModel$Bus" "errors" "I" ∈ GT := gt_9 (List.mem_of_getElem? (i := 209) rfl) rfl
theorem wd_2130 : Cond.fieldLink "CarHouseModel$Bus" 87 "CarHouseModel$Bus" "errorKind" "[B" ∈ GT := gt_9 (List.mem_of_getElem? (i := 210) rfl) rfl
theorem wd_2131 : Cond.fieldLink "CarHouseModel$Bus" 90 "CarHouseModel$Bus" "errorNode" "[B" ∈ GT := gt_9 (List.mem_of_getElem? (i := 211) rfl) rfl
theorem wd_2132 : Cond.fieldLink "CarHouseModel$Bus" 93 "CarHouseModel$Bus" "errorTime" "[I" ∈ GT := gt_9 (List.mem_of_getElem? (i := 212) rfl) rfl
theorem wd_2133 : Cond.fieldLink "CarHouseModel$Bus" 96 "CarHouseModel$Bus" "plain" "[B" ∈ GT := gt_9 (List.mem_of_getElem? (i := 213) rfl) rfl
theorem wd_2134 : Cond.fieldLink "CarHouseModel$Bus" 150 "CarHouseModel$Bus" "plainCount" "I" ∈ GT := gt_9 (List.mem_of_getElem? (i := 214) rfl) rfl
theorem wd_2135 : Cond.fieldLink "CarHouseModel$Bus" 99 "CarHouseModel$Bus" "row" "[B" ∈ GT := gt_9 (List.mem_of_getElem? (i := 215) rfl) rfl
theorem wd_2136 : Cond.fieldLink "CarHouseModel$Bus" 102 "CarHouseModel$Bus" "stuff" "[Z" ∈ GT := gt_9 (List.mem_of_getElem? (i := 216) rfl) rfl
theorem wd_2137 : Cond.fieldLink "CarHouseModel$Bus" 163 "CarHouseModel$Bus" "rowCount" "I" ∈ GT := gt_9 (List.mem_of_getElem? (i := 217) rfl) rfl
theorem wd_2138 : Cond.fieldLink "CarHouseModel$Bus" 187 "CarHouseModel$Bus" "arbitration" "I" ∈ GT := gt_9 (List.mem_of_getElem? (i := 218) rfl) rfl
theorem wd_2139 : Cond.fieldLink "CarHouseModel$Bus" 105 "CarHouseModel$Bus" "other" "[B" ∈ GT := gt_9 (List.mem_of_getElem? (i := 219) rfl) rfl
theorem wd_2140 : Cond.fieldLink "CarHouseModel$Bus" 108 "CarHouseModel$Bus" "checked" "[B" ∈ GT := gt_9 (List.mem_of_getElem? (i := 220) rfl) rfl
theorem wd_2141 : Cond.fieldLink "CarHouseModel$Bus" 160 "CarHouseModel$Bus" "checkedCount" "I" ∈ GT := gt_9 (List.mem_of_getElem? (i := 221) rfl) rfl
theorem wd_2142 : Cond.fieldLink "CarHouseModel$Bus" 222 "CarHouseModel$Bus" "foundKind" "I" ∈ GT := gt_9 (List.mem_of_getElem? (i := 222) rfl) rfl
theorem wd_2143 : Cond.fieldLink "CarHouseModel$Bus" 225 "CarHouseModel$Bus" "foundLength" "I" ∈ GT := gt_9 (List.mem_of_getElem? (i := 223) rfl) rfl
theorem wd_2144 : Cond.fieldLink "CarHouseModel$Bus" 231 "CarHouseModel$Bus" "foundIdentifier" "I" ∈ GT := gt_9 (List.mem_of_getElem? (i := 224) rfl) rfl
theorem wd_2145 : Cond.fieldLink "CarHouseModel$Bus" 209 "CarHouseModel$Bus" "bodyEnd" "I" ∈ GT := gt_9 (List.mem_of_getElem? (i := 225) rfl) rfl
theorem wd_2146 : Cond.fieldLink "CarHouseModel$Bus" 212 "CarHouseModel$Bus" "stuffs" "I" ∈ GT := gt_9 (List.mem_of_getElem? (i := 226) rfl) rfl
theorem wd_2147 : Cond.fieldLink "CarHouseModel$Bus" 111 "CarHouseModel$Bus" "known" "[B" ∈ GT := gt_9 (List.mem_of_getElem? (i := 227) rfl) rfl
theorem wd_2148 : Cond.fieldLink "CarHouseModel$Bus" 114 "CarHouseModel$Bus" "knownCount" "I" ∈ GT := gt_9 (List.mem_of_getElem? (i := 228) rfl) rfl
theorem wd_2149 : Cond.fieldLink "CarHouseModel$Bus" 203 "CarHouseModel$Bus" "knownWrong" "I" ∈ GT := gt_9 (List.mem_of_getElem? (i := 229) rfl) rfl
theorem wd_2150 : Cond.fieldLink "CarHouseModel$Bus" 117 "CarHouseModel$Bus" "written" "I" ∈ GT := gt_9 (List.mem_of_getElem? (i := 230) rfl) rfl
theorem wd_2151 : Cond.lays "CarHouseModel$Bus" "CarHouseModel$Bus" "code" "I" ∈ GT := gt_9 (List.mem_of_getElem? (i := 231) rfl) rfl
theorem wd_2153 : Cond.lays "CarHouseModel$Bus" "CarHouseModel$Bus" "nodes" "I" ∈ GT := gt_9 (List.mem_of_getElem? (i := 233) rfl) rfl
theorem wd_2155 : Cond.lays "CarHouseModel$Bus" "CarHouseModel$Bus" "time" "I" ∈ GT := gt_9 (List.mem_of_getElem? (i := 235) rfl) rfl
theorem wd_2157 : Cond.laysFinal "CarHouseModel$Bus" "CarHouseModel$Bus" "bus" "[B" ∈ GT := gt_9 (List.mem_of_getElem? (i := 237) rfl) rfl
theorem wd_2159 : Cond.lays "CarHouseModel$Bus" "CarHouseModel$Bus" "frames" "I" ∈ GT := gt_9 (List.mem_of_getElem? (i := 239) rfl) rfl
theorem wd_2161 : Cond.laysFinal "CarHouseModel$Bus" "CarHouseModel$Bus" "owner" "[I" ∈ GT := gt_10 (List.mem_of_getElem? (i := 1) rfl) rfl
theorem wd_2163 : Cond.laysFinal "CarHouseModel$Bus" "CarHouseModel$Bus" "identifier" "[I" ∈ GT := gt_10 (List.mem_of_getElem? (i := 3) rfl) rfl
theorem wd_2165 : Cond.laysFinal "CarHouseModel$Bus" "CarHouseModel$Bus" "kind" "[I" ∈ GT := gt_10 (List.mem_of_getElem? (i := 5) rfl) rfl
theorem wd_2167 : Cond.laysFinal "CarHouseModel$Bus" "CarHouseModel$Bus" "length" "[I" ∈ GT := gt_10 (List.mem_of_getElem? (i := 7) rfl) rfl
theorem wd_2169 : Cond.laysFinal "CarHouseModel$Bus" "CarHouseModel$Bus" "octets" "[I" ∈ GT := gt_10 (List.mem_of_getElem? (i := 9) rfl) rfl
theorem wd_2171 : Cond.laysFinal "CarHouseModel$Bus" "CarHouseModel$Bus" "isDone" "[Z" ∈ GT := gt_10 (List.mem_of_getElem? (i := 11) rfl) rfl
theorem wd_2173 : Cond.lays "CarHouseModel$Bus" "CarHouseModel$Bus" "dones" "I" ∈ GT := gt_10 (List.mem_of_getElem? (i := 13) rfl) rfl
theorem wd_2175 : Cond.laysFinal "CarHouseModel$Bus" "CarHouseModel$Bus" "doneFrame" "[I" ∈ GT := gt_10 (List.mem_of_getElem? (i := 15) rfl) rfl
theorem wd_2177 : Cond.laysFinal "CarHouseModel$Bus" "CarHouseModel$Bus" "doneTime" "[I" ∈ GT := gt_10 (List.mem_of_getElem? (i := 17) rfl) rfl
theorem wd_2179 : Cond.laysFinal "CarHouseModel$Bus" "CarHouseModel$Bus" "state" "[I" ∈ GT := gt_10 (List.mem_of_getElem? (i := 19) rfl) rfl
theorem wd_2181 : Cond.laysFinal "CarHouseModel$Bus" "CarHouseModel$Bus" "left" "[I" ∈ GT := gt_10 (List.mem_of_getElem? (i := 21) rfl) rfl
theorem wd_2183 : Cond.laysFinal "CarHouseModel$Bus" "CarHouseModel$Bus" "sends" "[I" ∈ GT := gt_10 (List.mem_of_getElem? (i := 23) rfl) rfl
theorem wd_2185 : Cond.laysFinal "CarHouseModel$Bus" "CarHouseModel$Bus" "mask" "[I" ∈ GT := gt_10 (List.mem_of_getElem? (i := 25) rfl) rfl
theorem wd_2187 : Cond.laysFinal "CarHouseModel$Bus" "CarHouseModel$Bus" "match" "[I" ∈ GT := gt_10 (List.mem_of_getElem? (i := 27) rfl) rfl
theorem wd_2189 : Cond.laysFinal "CarHouseModel$Bus" "CarHouseModel$Bus" "seenCount" "[I" ∈ GT := gt_10 (List.mem_of_getElem? (i := 29) rfl) rfl
theorem wd_2191 : Cond.laysFinal "CarHouseModel$Bus" "CarHouseModel$Bus" "seen" "[B" ∈ GT := gt_10 (List.mem_of_getElem? (i := 31) rfl) rfl
theorem wd_2193 : Cond.laysFinal "CarHouseModel$Bus" "CarHouseModel$Bus" "flip" "[Z" ∈ GT := gt_10 (List.mem_of_getElem? (i := 33) rfl) rfl
theorem wd_2195 : Cond.lays "CarHouseModel$Bus" "CarHouseModel$Bus" "takens" "I" ∈ GT := gt_10 (List.mem_of_getElem? (i := 35) rfl) rfl
theorem wd_2197 : Cond.laysFinal "CarHouseModel$Bus" "CarHouseModel$Bus" "takenNode" "[I" ∈ GT := gt_10 (List.mem_of_getElem? (i := 37) rfl) rfl
theorem wd_2199 : Cond.laysFinal "CarHouseModel$Bus" "CarHouseModel$Bus" "takenIdentifier" "[I" ∈ GT := gt_10 (List.mem_of_getElem? (i := 39) rfl) rfl
theorem wd_2201 : Cond.laysFinal "CarHouseModel$Bus" "CarHouseModel$Bus" "takenKind" "[B" ∈ GT := gt_10 (List.mem_of_getElem? (i := 41) rfl) rfl
theorem wd_2203 : Cond.laysFinal "CarHouseModel$Bus" "CarHouseModel$Bus" "takenLength" "[B" ∈ GT := gt_10 (List.mem_of_getElem? (i := 43) rfl) rfl
theorem wd_2205 : Cond.laysFinal "CarHouseModel$Bus" "CarHouseModel$Bus" "takenTime" "[I" ∈ GT := gt_10 (List.mem_of_getElem? (i := 45) rfl) rfl
theorem wd_2207 : Cond.laysFinal "CarHouseModel$Bus" "CarHouseModel$Bus" "takenOctets" "[B" ∈ GT := gt_10 (List.mem_of_getElem? (i := 47) rfl) rfl
theorem wd_2209 : Cond.lays "CarHouseModel$Bus" "CarHouseModel$Bus" "errors" "I" ∈ GT := gt_10 (List.mem_of_getElem? (i := 49) rfl) rfl
theorem wd_2211 : Cond.laysFinal "CarHouseModel$Bus" "CarHouseModel$Bus" "errorKind" "[B" ∈ GT := gt_10 (List.mem_of_getElem? (i := 51) rfl) rfl
theorem wd_2213 : Cond.laysFinal "CarHouseModel$Bus" "CarHouseModel$Bus" "errorNode" "[B" ∈ GT := gt_10 (List.mem_of_getElem? (i := 53) rfl) rfl
theorem wd_2215 : Cond.laysFinal "CarHouseModel$Bus" "CarHouseModel$Bus" "errorTime" "[I" ∈ GT := gt_10 (List.mem_of_getElem? (i := 55) rfl) rfl
theorem wd_2217 : Cond.laysFinal "CarHouseModel$Bus" "CarHouseModel$Bus" "plain" "[B" ∈ GT := gt_10 (List.mem_of_getElem? (i := 57) rfl) rfl
theorem wd_2219 : Cond.lays "CarHouseModel$Bus" "CarHouseModel$Bus" "plainCount" "I" ∈ GT := gt_10 (List.mem_of_getElem? (i := 59) rfl) rfl
theorem wd_2221 : Cond.laysFinal "CarHouseModel$Bus" "CarHouseModel$Bus" "row" "[B" ∈ GT := gt_10 (List.mem_of_getElem? (i := 61) rfl) rfl
theorem wd_2223 : Cond.laysFinal "CarHouseModel$Bus" "CarHouseModel$Bus" "stuff" "[Z" ∈ GT := gt_10 (List.mem_of_getElem? (i := 63) rfl) rfl
theorem wd_2225 : Cond.lays "CarHouseModel$Bus" "CarHouseModel$Bus" "rowCount" "I" ∈ GT := gt_10 (List.mem_of_getElem? (i := 65) rfl) rfl
theorem wd_2227 : Cond.lays "CarHouseModel$Bus" "CarHouseModel$Bus" "arbitration" "I" ∈ GT := gt_10 (List.mem_of_getElem? (i := 67) rfl) rfl
theorem wd_2229 : Cond.laysFinal "CarHouseModel$Bus" "CarHouseModel$Bus" "other" "[B" ∈ GT := gt_10 (List.mem_of_getElem? (i := 69) rfl) rfl
theorem wd_2231 : Cond.laysFinal "CarHouseModel$Bus" "CarHouseModel$Bus" "checked" "[B" ∈ GT := gt_10 (List.mem_of_getElem? (i := 71) rfl) rfl
theorem wd_2233 : Cond.lays "CarHouseModel$Bus" "CarHouseModel$Bus" "checkedCount" "I" ∈ GT := gt_10 (List.mem_of_getElem? (i := 73) rfl) rfl
theorem wd_2235 : Cond.lays "CarHouseModel$Bus" "CarHouseModel$Bus" "foundKind" "I" ∈ GT := gt_10 (List.mem_of_getElem? (i := 75) rfl) rfl
theorem wd_2237 : Cond.lays "CarHouseModel$Bus" "CarHouseModel$Bus" "foundLength" "I" ∈ GT := gt_10 (List.mem_of_getElem? (i := 77) rfl) rfl
theorem wd_2239 : Cond.lays "CarHouseModel$Bus" "CarHouseModel$Bus" "foundIdentifier" "I" ∈ GT := gt_10 (List.mem_of_getElem? (i := 79) rfl) rfl
theorem wd_2241 : Cond.lays "CarHouseModel$Bus" "CarHouseModel$Bus" "bodyEnd" "I" ∈ GT := gt_10 (List.mem_of_getElem? (i := 81) rfl) rfl
theorem wd_2243 : Cond.lays "CarHouseModel$Bus" "CarHouseModel$Bus" "stuffs" "I" ∈ GT := gt_10 (List.mem_of_getElem? (i := 83) rfl) rfl
theorem wd_2245 : Cond.laysFinal "CarHouseModel$Bus" "CarHouseModel$Bus" "known" "[B" ∈ GT := gt_10 (List.mem_of_getElem? (i := 85) rfl) rfl
theorem wd_2247 : Cond.lays "CarHouseModel$Bus" "CarHouseModel$Bus" "knownCount" "I" ∈ GT := gt_10 (List.mem_of_getElem? (i := 87) rfl) rfl
theorem wd_2249 : Cond.lays "CarHouseModel$Bus" "CarHouseModel$Bus" "knownWrong" "I" ∈ GT := gt_10 (List.mem_of_getElem? (i := 89) rfl) rfl
theorem wd_2251 : Cond.lays "CarHouseModel$Bus" "CarHouseModel$Bus" "written" "I" ∈ GT := gt_10 (List.mem_of_getElem? (i := 91) rfl) rfl
theorem wd_2254 : Cond.classLink "CarHouseModel" 188 "CarHouseModel$Codes" ∈ GT := gt_10 (List.mem_of_getElem? (i := 94) rfl) rfl
theorem wd_2255 : Cond.instantiable "CarHouseModel$Codes" 19 ∈ GT := gt_10 (List.mem_of_getElem? (i := 95) rfl) rfl
theorem wd_2256 : Cond.methodLink "CarHouseModel" 190 ⟨"CarHouseModel$Codes", "<init>", "()V"⟩ ∈ GT := gt_10 (List.mem_of_getElem? (i := 96) rfl) rfl
theorem wd_2257 : Cond.instanceMethod ⟨"CarHouseModel$Codes", "<init>", "()V"⟩ ∈ GT := gt_10 (List.mem_of_getElem? (i := 97) rfl) rfl
theorem wd_2258 : Cond.code ⟨"CarHouseModel$Codes", "<init>", "()V"⟩ prog_17_method_1_code 2 none ∈ GT := gt_10 (List.mem_of_getElem? (i := 98) rfl) rfl
theorem wd_2259 : Cond.methodLink "CarHouseModel$Codes" 1 ⟨"java/lang/Object", "<init>", "()V"⟩ ∈ GT := gt_10 (List.mem_of_getElem? (i := 99) rfl) rfl
theorem wd_2260 : Cond.methodLink "CarHouseModel$Codes" 54 ⟨"CarHouseModel$Codes", "substituteOf", "(I)I"⟩ ∈ GT := gt_10 (List.mem_of_getElem? (i := 100) rfl) rfl
theorem wd_2261 : Cond.static ⟨"CarHouseModel$Codes", "substituteOf", "(I)I"⟩ ∈ GT := gt_10 (List.mem_of_getElem? (i := 101) rfl) rfl
theorem wd_2262 : Cond.code ⟨"CarHouseModel$Codes", "substituteOf", "(I)I"⟩ prog_17_method_6_code 4 (some .int) ∈ GT := gt_10 (List.mem_of_getElem? (i := 102) rfl) rfl
theorem wd_2263 : Cond.methodLink "CarHouseModel$Codes" 65 ⟨"CarHouseModel$Codes", "product", "(II)I"⟩ ∈ GT := gt_10 (List.mem_of_getElem? (i := 103) rfl) rfl
theorem wd_2264 : Cond.static ⟨"CarHouseModel$Codes", "product", "(II)I"⟩ ∈ GT := gt_10 (List.mem_of_getElem? (i := 104) rfl) rfl
theorem wd_2265 : Cond.code ⟨"CarHouseModel$Codes", "product", "(II)I"⟩ prog_17_method_5_code 5 (some .int) ∈ GT := gt_10 (List.mem_of_getElem? (i := 105) rfl) rfl
theorem wd_2266 : Cond.fieldLink "CarHouseModel$Codes" 58 "CarHouseModel$Codes" "code" "I" ∈ GT := gt_10 (List.mem_of_getElem? (i := 106) rfl) rfl
theorem wd_2267 : Cond.fieldLink "CarHouseModel$Codes" 62 "CarHouseModel$Codes" "keys" "I" ∈ GT := gt_10 (List.mem_of_getElem? (i := 107) rfl) rfl
theorem wd_2268 : Cond.fieldLink "CarHouseModel$Codes" 7 "CarHouseModel$Codes" "octets" "[I" ∈ GT := gt_10 (List.mem_of_getElem? (i := 108) rfl) rfl
theorem wd_2269 : Cond.fieldLink "CarHouseModel$Codes" 13 "CarHouseModel$Codes" "nextOctet" "[I" ∈ GT := gt_10 (List.mem_of_getElem? (i := 109) rfl) rfl
theorem wd_2270 : Cond.fieldLink "CarHouseModel$Codes" 16 "CarHouseModel$Codes" "installed" "[J" ∈ GT := gt_10 (List.mem_of_getElem? (i := 110) rfl) rfl
theorem wd_2271 : Cond.fieldLink "CarHouseModel$Codes" 20 "CarHouseModel$Codes" "message" "[I" ∈ GT := gt_10 (List.mem_of_getElem? (i := 111) rfl) rfl
theorem wd_2272 : Cond.fieldLink "CarHouseModel$Codes" 86 "CarHouseModel$Codes" "length" "I" ∈ GT := gt_10 (List.mem_of_getElem? (i := 112) rfl) rfl
theorem wd_2273 : Cond.fieldLink "CarHouseModel$Codes" 89 "CarHouseModel$Codes" "outSize" "I" ∈ GT := gt_10 (List.mem_of_getElem? (i := 113) rfl) rfl
theorem wd_2274 : Cond.fieldLink "CarHouseModel$Codes" 23 "CarHouseModel$Codes" "out" "[I" ∈ GT := gt_10 (List.mem_of_getElem? (i := 114) rfl) rfl
theorem wd_2275 : Cond.fieldLink "CarHouseModel$Codes" 26 "CarHouseModel$Codes" "may" "[Z" ∈ GT := gt_10 (List.mem_of_getElem? (i := 115) rfl) rfl
theorem wd_2276 : Cond.fieldLink "CarHouseModel$Codes" 30 "CarHouseModel$Codes" "counter" "[J" ∈ GT := gt_10 (List.mem_of_getElem? (i := 116) rfl) rfl
theorem wd_2277 : Cond.fieldLink "CarHouseModel$Codes" 33 "CarHouseModel$Codes" "bad" "[I" ∈ GT := gt_10 (List.mem_of_getElem? (i := 117) rfl) rfl
theorem wd_2278 : Cond.fieldLink "CarHouseModel$Codes" 36 "CarHouseModel$Codes" "block" "[I" ∈ GT := gt_10 (List.mem_of_getElem? (i := 118) rfl) rfl
theorem wd_2279 : Cond.fieldLink "CarHouseModel$Codes" 39 "CarHouseModel$Codes" "other" "[I" ∈ GT := gt_10 (List.mem_of_getElem? (i := 119) rfl) rfl
theorem wd_2280 : Cond.fieldLink "CarHouseModel$Codes" 42 "CarHouseModel$Codes" "round" "[I" ∈ GT := gt_10 (List.mem_of_getElem? (i := 120) rfl) rfl
theorem wd_2281 : Cond.fieldLink "CarHouseModel$Codes" 45 "CarHouseModel$Codes" "mask" "[I" ∈ GT := gt_10 (List.mem_of_getElem? (i := 121) rfl) rfl
theorem wd_2282 : Cond.fieldLink "CarHouseModel$Codes" 48 "CarHouseModel$Codes" "row" "[I" ∈ GT := gt_10 (List.mem_of_getElem? (i := 122) rfl) rfl
theorem wd_2283 : Cond.fieldLink "CarHouseModel$Codes" 51 "CarHouseModel$Codes" "substitutes" "[I" ∈ GT := gt_10 (List.mem_of_getElem? (i := 123) rfl) rfl
theorem wd_2284 : Cond.lays "CarHouseModel$Codes" "CarHouseModel$Codes" "code" "I" ∈ GT := gt_10 (List.mem_of_getElem? (i := 124) rfl) rfl
theorem wd_2286 : Cond.lays "CarHouseModel$Codes" "CarHouseModel$Codes" "keys" "I" ∈ GT := gt_10 (List.mem_of_getElem? (i := 126) rfl) rfl
theorem wd_2288 : Cond.laysFinal "CarHouseModel$Codes" "CarHouseModel$Codes" "octets" "[I" ∈ GT := gt_10 (List.mem_of_getElem? (i := 128) rfl) rfl
theorem wd_2290 : Cond.laysFinal "CarHouseModel$Codes" "CarHouseModel$Codes" "nextOctet" "[I" ∈ GT := gt_10 (List.mem_of_getElem? (i := 130) rfl) rfl
theorem wd_2292 : Cond.laysFinal "CarHouseModel$Codes" "CarHouseModel$Codes" "installed" "[J" ∈ GT := gt_10 (List.mem_of_getElem? (i := 132) rfl) rfl
theorem wd_2294 : Cond.laysFinal "CarHouseModel$Codes" "CarHouseModel$Codes" "message" "[I" ∈ GT := gt_10 (List.mem_of_getElem? (i := 134) rfl) rfl
theorem wd_2296 : Cond.lays "CarHouseModel$Codes" "CarHouseModel$Codes" "length" "I" ∈ GT := gt_10 (List.mem_of_getElem? (i := 136) rfl) rfl
theorem wd_2298 : Cond.lays "CarHouseModel$Codes" "CarHouseModel$Codes" "outSize" "I" ∈ GT := gt_10 (List.mem_of_getElem? (i := 138) rfl) rfl
theorem wd_2300 : Cond.laysFinal "CarHouseModel$Codes" "CarHouseModel$Codes" "out" "[I" ∈ GT := gt_10 (List.mem_of_getElem? (i := 140) rfl) rfl
theorem wd_2302 : Cond.lays "CarHouseModel$Codes" "CarHouseModel$Codes" "trip" "J" ∈ GT := gt_10 (List.mem_of_getElem? (i := 142) rfl) rfl
theorem wd_2304 : Cond.laysFinal "CarHouseModel$Codes" "CarHouseModel$Codes" "may" "[Z" ∈ GT := gt_10 (List.mem_of_getElem? (i := 144) rfl) rfl
theorem wd_2306 : Cond.laysFinal "CarHouseModel$Codes" "CarHouseModel$Codes" "counter" "[J" ∈ GT := gt_10 (List.mem_of_getElem? (i := 146) rfl) rfl
theorem wd_2308 : Cond.laysFinal "CarHouseModel$Codes" "CarHouseModel$Codes" "bad" "[I" ∈ GT := gt_10 (List.mem_of_getElem? (i := 148) rfl) rfl
theorem wd_2310 : Cond.laysFinal "CarHouseModel$Codes" "CarHouseModel$Codes" "block" "[I" ∈ GT := gt_10 (List.mem_of_getElem? (i := 150) rfl) rfl
theorem wd_2312 : Cond.laysFinal "CarHouseModel$Codes" "CarHouseModel$Codes" "other" "[I" ∈ GT := gt_10 (List.mem_of_getElem? (i := 152) rfl) rfl
theorem wd_2314 : Cond.laysFinal "CarHouseModel$Codes" "CarHouseModel$Codes" "round" "[I" ∈ GT := gt_10 (List.mem_of_getElem? (i := 154) rfl) rfl
theorem wd_2316 : Cond.laysFinal "CarHouseModel$Codes" "CarHouseModel$Codes" "mask" "[I" ∈ GT := gt_10 (List.mem_of_getElem? (i := 156) rfl) rfl
theorem wd_2318 : Cond.laysFinal "CarHouseModel$Codes" "CarHouseModel$Codes" "row" "[I" ∈ GT := gt_10 (List.mem_of_getElem? (i := 158) rfl) rfl
theorem wd_2320 : Cond.laysFinal "CarHouseModel$Codes" "CarHouseModel$Codes" "substitutes" "[I" ∈ GT := gt_10 (List.mem_of_getElem? (i := 160) rfl) rfl
theorem wd_2323 : Cond.classLink "CarHouseModel" 195 "CarHouseModel$Transfer" ∈ GT := gt_10 (List.mem_of_getElem? (i := 163) rfl) rfl
theorem wd_2324 : Cond.instantiable "CarHouseModel$Transfer" 43 ∈ GT := gt_10 (List.mem_of_getElem? (i := 164) rfl) rfl
theorem nd_2325 : Cond.methodLinkNest "CarHouseModel" 197 ⟨"CarHouseModel$Transfer", "<init>", "()V"⟩ "CarHouseModel" ∈ NT := gn_10 (List.mem_of_getElem? (i := 165) rfl) rfl
theorem wd_2326 : Cond.instanceMethod ⟨"CarHouseModel$Transfer", "<init>", "()V"⟩ ∈ GT := gt_10 (List.mem_of_getElem? (i := 166) rfl) rfl
theorem wd_2327 : Cond.code ⟨"CarHouseModel$Transfer", "<init>", "()V"⟩ prog_20_method_1_code 1 none ∈ GT := gt_10 (List.mem_of_getElem? (i := 167) rfl) rfl
theorem wd_2328 : Cond.methodLink "CarHouseModel$Transfer" 1 ⟨"java/lang/Object", "<init>", "()V"⟩ ∈ GT := gt_10 (List.mem_of_getElem? (i := 168) rfl) rfl
theorem wd_2329 : Cond.constant "CarHouseModel$Transfer" 76 40000 ∈ GT := gt_10 (List.mem_of_getElem? (i := 169) rfl) rfl
theorem wd_2330 : Cond.constant "CarHouseModel$Transfer" 101 42007 ∈ GT := gt_10 (List.mem_of_getElem? (i := 170) rfl) rfl
theorem wd_2331 : Cond.fieldLink "CarHouseModel$Transfer" 144 "CarHouseModel$Transfer" "code" "I" ∈ GT := gt_10 (List.mem_of_getElem? (i := 171) rfl) rfl
theorem wd_2332 : Cond.fieldLink "CarHouseModel$Transfer" 115 "CarHouseModel$Transfer" "room" "I" ∈ GT := gt_10 (List.mem_of_getElem? (i := 172) rfl) rfl
theorem wd_2333 : Cond.fieldLink "CarHouseModel$Transfer" 118 "CarHouseModel$Transfer" "now" "J" ∈ GT := gt_10 (List.mem_of_getElem? (i := 173) rfl) rfl
theorem wd_2334 : Cond.fieldLink "CarHouseModel$Transfer" 122 "CarHouseModel$Transfer" "messages" "I" ∈ GT := gt_10 (List.mem_of_getElem? (i := 174) rfl) rfl
theorem wd_2335 : Cond.fieldLink "CarHouseModel$Transfer" 7 "CarHouseModel$Transfer" "begin" "[I" ∈ GT := gt_10 (List.mem_of_getElem? (i := 175) rfl) rfl
theorem wd_2336 : Cond.fieldLink "CarHouseModel$Transfer" 13 "CarHouseModel$Transfer" "data" "[B" ∈ GT := gt_10 (List.mem_of_getElem? (i := 176) rfl) rfl
theorem wd_2337 : Cond.fieldLink "CarHouseModel$Transfer" 17 "CarHouseModel$Transfer" "begun" "[Z" ∈ GT := gt_10 (List.mem_of_getElem? (i := 177) rfl) rfl
theorem wd_2338 : Cond.fieldLink "CarHouseModel$Transfer" 21 "CarHouseModel$Transfer" "state" "[I" ∈ GT := gt_10 (List.mem_of_getElem? (i := 178) rfl) rfl
theorem wd_2339 : Cond.fieldLink "CarHouseModel$Transfer" 24 "CarHouseModel$Transfer" "sent" "[I" ∈ GT := gt_10 (List.mem_of_getElem? (i := 179) rfl) rfl
theorem wd_2340 : Cond.fieldLink "CarHouseModel$Transfer" 27 "CarHouseModel$Transfer" "sequence" "[I" ∈ GT := gt_10 (List.mem_of_getElem? (i := 180) rfl) rfl
theorem wd_2341 : Cond.fieldLink "CarHouseModel$Transfer" 30 "CarHouseModel$Transfer" "block" "[I" ∈ GT := gt_10 (List.mem_of_getElem? (i := 181) rfl) rfl
theorem wd_2342 : Cond.fieldLink "CarHouseModel$Transfer" 33 "CarHouseModel$Transfer" "left" "[I" ∈ GT := gt_10 (List.mem_of_getElem? (i := 182) rfl) rfl
theorem wd_2343 : Cond.fieldLink "CarHouseModel$Transfer" 36 "CarHouseModel$Transfer" "separation" "[I" ∈ GT := gt_10 (List.mem_of_getElem? (i := 183) rfl) rfl
theorem wd_2344 : Cond.fieldLink "CarHouseModel$Transfer" 39 "CarHouseModel$Transfer" "waits" "[I" ∈ GT := gt_10 (List.mem_of_getElem? (i := 184) rfl) rfl
theorem wd_2345 : Cond.fieldLink "CarHouseModel$Transfer" 42 "CarHouseModel$Transfer" "since" "[J" ∈ GT := gt_10 (List.mem_of_getElem? (i := 185) rfl) rfl
theorem wd_2346 : Cond.fieldLink "CarHouseModel$Transfer" 46 "CarHouseModel$Transfer" "due" "[J" ∈ GT := gt_10 (List.mem_of_getElem? (i := 186) rfl) rfl
theorem wd_2347 : Cond.fieldLink "CarHouseModel$Transfer" 49 "CarHouseModel$Transfer" "place" "[I" ∈ GT := gt_10 (List.mem_of_getElem? (i := 187) rfl) rfl
theorem wd_2348 : Cond.fieldLink "CarHouseModel$Transfer" 52 "CarHouseModel$Transfer" "message" "[I" ∈ GT := gt_10 (List.mem_of_getElem? (i := 188) rfl) rfl
theorem wd_2349 : Cond.fieldLink "CarHouseModel$Transfer" 55 "CarHouseModel$Transfer" "length" "[I" ∈ GT := gt_10 (List.mem_of_getElem? (i := 189) rfl) rfl
theorem wd_2350 : Cond.fieldLink "CarHouseModel$Transfer" 58 "CarHouseModel$Transfer" "come" "[I" ∈ GT := gt_10 (List.mem_of_getElem? (i := 190) rfl) rfl
theorem wd_2351 : Cond.fieldLink "CarHouseModel$Transfer" 61 "CarHouseModel$Transfer" "awaited" "[I" ∈ GT := gt_10 (List.mem_of_getElem? (i := 191) rfl) rfl
theorem wd_2352 : Cond.fieldLink "CarHouseModel$Transfer" 64 "CarHouseModel$Transfer" "said" "[I" ∈ GT := gt_10 (List.mem_of_getElem? (i := 192) rfl) rfl
theorem wd_2353 : Cond.fieldLink "CarHouseModel$Transfer" 67 "CarHouseModel$Transfer" "more" "[I" ∈ GT := gt_10 (List.mem_of_getElem? (i := 193) rfl) rfl
theorem wd_2354 : Cond.fieldLink "CarHouseModel$Transfer" 70 "CarHouseModel$Transfer" "heard" "[J" ∈ GT := gt_10 (List.mem_of_getElem? (i := 194) rfl) rfl
theorem wd_2355 : Cond.fieldLink "CarHouseModel$Transfer" 73 "CarHouseModel$Transfer" "asks" "[Z" ∈ GT := gt_10 (List.mem_of_getElem? (i := 195) rfl) rfl
theorem wd_2356 : Cond.fieldLink "CarHouseModel$Transfer" 77 "CarHouseModel$Transfer" "buffer" "[B" ∈ GT := gt_10 (List.mem_of_getElem? (i := 196) rfl) rfl
theorem wd_2357 : Cond.fieldLink "CarHouseModel$Transfer" 125 "CarHouseModel$Transfer" "frames" "I" ∈ GT := gt_10 (List.mem_of_getElem? (i := 197) rfl) rfl
theorem wd_2358 : Cond.fieldLink "CarHouseModel$Transfer" 80 "CarHouseModel$Transfer" "kind" "[I" ∈ GT := gt_10 (List.mem_of_getElem? (i := 198) rfl) rfl
theorem wd_2359 : Cond.fieldLink "CarHouseModel$Transfer" 83 "CarHouseModel$Transfer" "of" "[I" ∈ GT := gt_10 (List.mem_of_getElem? (i := 199) rfl) rfl
theorem wd_2360 : Cond.fieldLink "CarHouseModel$Transfer" 86 "CarHouseModel$Transfer" "number" "[I" ∈ GT := gt_10 (List.mem_of_getElem? (i := 200) rfl) rfl
theorem wd_2361 : Cond.fieldLink "CarHouseModel$Transfer" 89 "CarHouseModel$Transfer" "count" "[I" ∈ GT := gt_10 (List.mem_of_getElem? (i := 201) rfl) rfl
theorem wd_2362 : Cond.fieldLink "CarHouseModel$Transfer" 92 "CarHouseModel$Transfer" "apart" "[I" ∈ GT := gt_10 (List.mem_of_getElem? (i := 202) rfl) rfl
theorem wd_2363 : Cond.fieldLink "CarHouseModel$Transfer" 95 "CarHouseModel$Transfer" "time" "[J" ∈ GT := gt_10 (List.mem_of_getElem? (i := 203) rfl) rfl
theorem wd_2364 : Cond.fieldLink "CarHouseModel$Transfer" 98 "CarHouseModel$Transfer" "over" "[Z" ∈ GT := gt_10 (List.mem_of_getElem? (i := 204) rfl) rfl
theorem wd_2365 : Cond.fieldLink "CarHouseModel$Transfer" 102 "CarHouseModel$Transfer" "octets" "[B" ∈ GT := gt_10 (List.mem_of_getElem? (i := 205) rfl) rfl
theorem wd_2366 : Cond.fieldLink "CarHouseModel$Transfer" 128 "CarHouseModel$Transfer" "flowBlock" "I" ∈ GT := gt_10 (List.mem_of_getElem? (i := 206) rfl) rfl
theorem wd_2367 : Cond.fieldLink "CarHouseModel$Transfer" 131 "CarHouseModel$Transfer" "flowApart" "I" ∈ GT := gt_10 (List.mem_of_getElem? (i := 207) rfl) rfl
theorem wd_2368 : Cond.fieldLink "CarHouseModel$Transfer" 134 "CarHouseModel$Transfer" "flowKind" "I" ∈ GT := gt_10 (List.mem_of_getElem? (i := 208) rfl) rfl
theorem wd_2369 : Cond.fieldLink "CarHouseModel$Transfer" 105 "CarHouseModel$Transfer" "limit" "I" ∈ GT := gt_10 (List.mem_of_getElem? (i := 209) rfl) rfl
theorem wd_2370 : Cond.fieldLink "CarHouseModel$Transfer" 137 "CarHouseModel$Transfer" "functional" "Z" ∈ GT := gt_10 (List.mem_of_getElem? (i := 210) rfl) rfl
theorem wd_2371 : Cond.fieldLink "CarHouseModel$Transfer" 141 "CarHouseModel$Transfer" "gotten" "I" ∈ GT := gt_10 (List.mem_of_getElem? (i := 211) rfl) rfl
theorem wd_2372 : Cond.fieldLink "CarHouseModel$Transfer" 109 "CarHouseModel$Transfer" "got" "[B" ∈ GT := gt_10 (List.mem_of_getElem? (i := 212) rfl) rfl
theorem wd_2373 : Cond.fieldLink "CarHouseModel$Transfer" 112 "CarHouseModel$Transfer" "ended" "[I" ∈ GT := gt_10 (List.mem_of_getElem? (i := 213) rfl) rfl
theorem wd_2374 : Cond.lays "CarHouseModel$Transfer" "CarHouseModel$Transfer" "code" "I" ∈ GT := gt_10 (List.mem_of_getElem? (i := 214) rfl) rfl
theorem wd_2376 : Cond.lays "CarHouseModel$Transfer" "CarHouseModel$Transfer" "room" "I" ∈ GT := gt_10 (List.mem_of_getElem? (i := 216) rfl) rfl
theorem wd_2378 : Cond.lays "CarHouseModel$Transfer" "CarHouseModel$Transfer" "now" "J" ∈ GT := gt_10 (List.mem_of_getElem? (i := 218) rfl) rfl
theorem wd_2380 : Cond.lays "CarHouseModel$Transfer" "CarHouseModel$Transfer" "messages" "I" ∈ GT := gt_10 (List.mem_of_getElem? (i := 220) rfl) rfl
theorem wd_2382 : Cond.laysFinal "CarHouseModel$Transfer" "CarHouseModel$Transfer" "begin" "[I" ∈ GT := gt_10 (List.mem_of_getElem? (i := 222) rfl) rfl
theorem wd_2384 : Cond.laysFinal "CarHouseModel$Transfer" "CarHouseModel$Transfer" "data" "[B" ∈ GT := gt_10 (List.mem_of_getElem? (i := 224) rfl) rfl
theorem wd_2386 : Cond.laysFinal "CarHouseModel$Transfer" "CarHouseModel$Transfer" "begun" "[Z" ∈ GT := gt_10 (List.mem_of_getElem? (i := 226) rfl) rfl
theorem wd_2388 : Cond.laysFinal "CarHouseModel$Transfer" "CarHouseModel$Transfer" "state" "[I" ∈ GT := gt_10 (List.mem_of_getElem? (i := 228) rfl) rfl
theorem wd_2390 : Cond.laysFinal "CarHouseModel$Transfer" "CarHouseModel$Transfer" "sent" "[I" ∈ GT := gt_10 (List.mem_of_getElem? (i := 230) rfl) rfl
theorem wd_2392 : Cond.laysFinal "CarHouseModel$Transfer" "CarHouseModel$Transfer" "sequence" "[I" ∈ GT := gt_10 (List.mem_of_getElem? (i := 232) rfl) rfl
theorem wd_2394 : Cond.laysFinal "CarHouseModel$Transfer" "CarHouseModel$Transfer" "block" "[I" ∈ GT := gt_10 (List.mem_of_getElem? (i := 234) rfl) rfl
theorem wd_2396 : Cond.laysFinal "CarHouseModel$Transfer" "CarHouseModel$Transfer" "left" "[I" ∈ GT := gt_10 (List.mem_of_getElem? (i := 236) rfl) rfl
theorem wd_2398 : Cond.laysFinal "CarHouseModel$Transfer" "CarHouseModel$Transfer" "separation" "[I" ∈ GT := gt_10 (List.mem_of_getElem? (i := 238) rfl) rfl
theorem wd_2400 : Cond.laysFinal "CarHouseModel$Transfer" "CarHouseModel$Transfer" "waits" "[I" ∈ GT := gt_11 (List.mem_of_getElem? (i := 0) rfl) rfl
theorem wd_2402 : Cond.laysFinal "CarHouseModel$Transfer" "CarHouseModel$Transfer" "since" "[J" ∈ GT := gt_11 (List.mem_of_getElem? (i := 2) rfl) rfl
theorem wd_2404 : Cond.laysFinal "CarHouseModel$Transfer" "CarHouseModel$Transfer" "due" "[J" ∈ GT := gt_11 (List.mem_of_getElem? (i := 4) rfl) rfl
theorem wd_2406 : Cond.laysFinal "CarHouseModel$Transfer" "CarHouseModel$Transfer" "place" "[I" ∈ GT := gt_11 (List.mem_of_getElem? (i := 6) rfl) rfl
theorem wd_2408 : Cond.laysFinal "CarHouseModel$Transfer" "CarHouseModel$Transfer" "message" "[I" ∈ GT := gt_11 (List.mem_of_getElem? (i := 8) rfl) rfl
theorem wd_2410 : Cond.laysFinal "CarHouseModel$Transfer" "CarHouseModel$Transfer" "length" "[I" ∈ GT := gt_11 (List.mem_of_getElem? (i := 10) rfl) rfl
theorem wd_2412 : Cond.laysFinal "CarHouseModel$Transfer" "CarHouseModel$Transfer" "come" "[I" ∈ GT := gt_11 (List.mem_of_getElem? (i := 12) rfl) rfl
theorem wd_2414 : Cond.laysFinal "CarHouseModel$Transfer" "CarHouseModel$Transfer" "awaited" "[I" ∈ GT := gt_11 (List.mem_of_getElem? (i := 14) rfl) rfl
theorem wd_2416 : Cond.laysFinal "CarHouseModel$Transfer" "CarHouseModel$Transfer" "said" "[I" ∈ GT := gt_11 (List.mem_of_getElem? (i := 16) rfl) rfl
theorem wd_2418 : Cond.laysFinal "CarHouseModel$Transfer" "CarHouseModel$Transfer" "more" "[I" ∈ GT := gt_11 (List.mem_of_getElem? (i := 18) rfl) rfl
theorem wd_2420 : Cond.laysFinal "CarHouseModel$Transfer" "CarHouseModel$Transfer" "heard" "[J" ∈ GT := gt_11 (List.mem_of_getElem? (i := 20) rfl) rfl
theorem wd_2422 : Cond.laysFinal "CarHouseModel$Transfer" "CarHouseModel$Transfer" "asks" "[Z" ∈ GT := gt_11 (List.mem_of_getElem? (i := 22) rfl) rfl
theorem wd_2424 : Cond.laysFinal "CarHouseModel$Transfer" "CarHouseModel$Transfer" "buffer" "[B" ∈ GT := gt_11 (List.mem_of_getElem? (i := 24) rfl) rfl
theorem wd_2426 : Cond.lays "CarHouseModel$Transfer" "CarHouseModel$Transfer" "frames" "I" ∈ GT := gt_11 (List.mem_of_getElem? (i := 26) rfl) rfl
theorem wd_2428 : Cond.laysFinal "CarHouseModel$Transfer" "CarHouseModel$Transfer" "kind" "[I" ∈ GT := gt_11 (List.mem_of_getElem? (i := 28) rfl) rfl
theorem wd_2430 : Cond.laysFinal "CarHouseModel$Transfer" "CarHouseModel$Transfer" "of" "[I" ∈ GT := gt_11 (List.mem_of_getElem? (i := 30) rfl) rfl
theorem wd_2432 : Cond.laysFinal "CarHouseModel$Transfer" "CarHouseModel$Transfer" "number" "[I" ∈ GT := gt_11 (List.mem_of_getElem? (i := 32) rfl) rfl
theorem wd_2434 : Cond.laysFinal "CarHouseModel$Transfer" "CarHouseModel$Transfer" "count" "[I" ∈ GT := gt_11 (List.mem_of_getElem? (i := 34) rfl) rfl
theorem wd_2436 : Cond.laysFinal "CarHouseModel$Transfer" "CarHouseModel$Transfer" "apart" "[I" ∈ GT := gt_11 (List.mem_of_getElem? (i := 36) rfl) rfl
theorem wd_2438 : Cond.laysFinal "CarHouseModel$Transfer" "CarHouseModel$Transfer" "time" "[J" ∈ GT := gt_11 (List.mem_of_getElem? (i := 38) rfl) rfl
theorem wd_2440 : Cond.laysFinal "CarHouseModel$Transfer" "CarHouseModel$Transfer" "over" "[Z" ∈ GT := gt_11 (List.mem_of_getElem? (i := 40) rfl) rfl
theorem wd_2442 : Cond.laysFinal "CarHouseModel$Transfer" "CarHouseModel$Transfer" "octets" "[B" ∈ GT := gt_11 (List.mem_of_getElem? (i := 42) rfl) rfl
theorem wd_2444 : Cond.lays "CarHouseModel$Transfer" "CarHouseModel$Transfer" "flowBlock" "I" ∈ GT := gt_11 (List.mem_of_getElem? (i := 44) rfl) rfl
theorem wd_2446 : Cond.lays "CarHouseModel$Transfer" "CarHouseModel$Transfer" "flowApart" "I" ∈ GT := gt_11 (List.mem_of_getElem? (i := 46) rfl) rfl
theorem wd_2448 : Cond.lays "CarHouseModel$Transfer" "CarHouseModel$Transfer" "flowKind" "I" ∈ GT := gt_11 (List.mem_of_getElem? (i := 48) rfl) rfl
theorem wd_2450 : Cond.lays "CarHouseModel$Transfer" "CarHouseModel$Transfer" "limit" "I" ∈ GT := gt_11 (List.mem_of_getElem? (i := 50) rfl) rfl
theorem wd_2452 : Cond.lays "CarHouseModel$Transfer" "CarHouseModel$Transfer" "functional" "Z" ∈ GT := gt_11 (List.mem_of_getElem? (i := 52) rfl) rfl
theorem wd_2454 : Cond.lays "CarHouseModel$Transfer" "CarHouseModel$Transfer" "gotten" "I" ∈ GT := gt_11 (List.mem_of_getElem? (i := 54) rfl) rfl
theorem wd_2456 : Cond.laysFinal "CarHouseModel$Transfer" "CarHouseModel$Transfer" "got" "[B" ∈ GT := gt_11 (List.mem_of_getElem? (i := 56) rfl) rfl
theorem wd_2458 : Cond.laysFinal "CarHouseModel$Transfer" "CarHouseModel$Transfer" "ended" "[I" ∈ GT := gt_11 (List.mem_of_getElem? (i := 58) rfl) rfl
theorem wd_2461 : Cond.classLink "CarHouseModel" 202 "CarHouseModel$Troubles" ∈ GT := gt_11 (List.mem_of_getElem? (i := 61) rfl) rfl
theorem wd_2462 : Cond.instantiable "CarHouseModel$Troubles" 26 ∈ GT := gt_11 (List.mem_of_getElem? (i := 62) rfl) rfl
theorem nd_2463 : Cond.methodLinkNest "CarHouseModel" 204 ⟨"CarHouseModel$Troubles", "<init>", "()V"⟩ "CarHouseModel" ∈ NT := gn_11 (List.mem_of_getElem? (i := 63) rfl) rfl
theorem wd_2464 : Cond.instanceMethod ⟨"CarHouseModel$Troubles", "<init>", "()V"⟩ ∈ GT := gt_11 (List.mem_of_getElem? (i := 64) rfl) rfl
theorem wd_2465 : Cond.code ⟨"CarHouseModel$Troubles", "<init>", "()V"⟩ prog_21_method_1_code 1 none ∈ GT := gt_11 (List.mem_of_getElem? (i := 65) rfl) rfl
theorem wd_2466 : Cond.methodLink "CarHouseModel$Troubles" 1 ⟨"java/lang/Object", "<init>", "()V"⟩ ∈ GT := gt_11 (List.mem_of_getElem? (i := 66) rfl) rfl
theorem wd_2467 : Cond.fieldLink "CarHouseModel$Troubles" 88 "CarHouseModel$Troubles" "code" "I" ∈ GT := gt_11 (List.mem_of_getElem? (i := 67) rfl) rfl
theorem wd_2468 : Cond.fieldLink "CarHouseModel$Troubles" 65 "CarHouseModel$Troubles" "room" "I" ∈ GT := gt_11 (List.mem_of_getElem? (i := 68) rfl) rfl
theorem wd_2469 : Cond.fieldLink "CarHouseModel$Troubles" 69 "CarHouseModel$Troubles" "codes" "I" ∈ GT := gt_11 (List.mem_of_getElem? (i := 69) rfl) rfl
theorem wd_2470 : Cond.fieldLink "CarHouseModel$Troubles" 7 "CarHouseModel$Troubles" "priority" "[I" ∈ GT := gt_11 (List.mem_of_getElem? (i := 70) rfl) rfl
theorem wd_2471 : Cond.fieldLink "CarHouseModel$Troubles" 13 "CarHouseModel$Troubles" "up" "[I" ∈ GT := gt_11 (List.mem_of_getElem? (i := 71) rfl) rfl
theorem wd_2472 : Cond.fieldLink "CarHouseModel$Troubles" 16 "CarHouseModel$Troubles" "down" "[I" ∈ GT := gt_11 (List.mem_of_getElem? (i := 72) rfl) rfl
theorem wd_2473 : Cond.fieldLink "CarHouseModel$Troubles" 19 "CarHouseModel$Troubles" "parent" "[I" ∈ GT := gt_11 (List.mem_of_getElem? (i := 73) rfl) rfl
theorem wd_2474 : Cond.fieldLink "CarHouseModel$Troubles" 22 "CarHouseModel$Troubles" "counter" "[I" ∈ GT := gt_11 (List.mem_of_getElem? (i := 74) rfl) rfl
theorem wd_2475 : Cond.fieldLink "CarHouseModel$Troubles" 25 "CarHouseModel$Troubles" "bit" "[Z" ∈ GT := gt_11 (List.mem_of_getElem? (i := 75) rfl) rfl
theorem wd_2476 : Cond.fieldLink "CarHouseModel$Troubles" 29 "CarHouseModel$Troubles" "trips" "[I" ∈ GT := gt_11 (List.mem_of_getElem? (i := 76) rfl) rfl
theorem wd_2477 : Cond.fieldLink "CarHouseModel$Troubles" 32 "CarHouseModel$Troubles" "age" "[I" ∈ GT := gt_11 (List.mem_of_getElem? (i := 77) rfl) rfl
theorem wd_2478 : Cond.fieldLink "CarHouseModel$Troubles" 35 "CarHouseModel$Troubles" "good" "[I" ∈ GT := gt_11 (List.mem_of_getElem? (i := 78) rfl) rfl
theorem wd_2479 : Cond.fieldLink "CarHouseModel$Troubles" 38 "CarHouseModel$Troubles" "keptBit" "[Z" ∈ GT := gt_11 (List.mem_of_getElem? (i := 79) rfl) rfl
theorem wd_2480 : Cond.fieldLink "CarHouseModel$Troubles" 41 "CarHouseModel$Troubles" "keptTrips" "[I" ∈ GT := gt_11 (List.mem_of_getElem? (i := 80) rfl) rfl
theorem wd_2481 : Cond.fieldLink "CarHouseModel$Troubles" 44 "CarHouseModel$Troubles" "keptAge" "[I" ∈ GT := gt_11 (List.mem_of_getElem? (i := 81) rfl) rfl
theorem wd_2482 : Cond.fieldLink "CarHouseModel$Troubles" 47 "CarHouseModel$Troubles" "keptGood" "[I" ∈ GT := gt_11 (List.mem_of_getElem? (i := 82) rfl) rfl
theorem wd_2483 : Cond.fieldLink "CarHouseModel$Troubles" 50 "CarHouseModel$Troubles" "stored" "[I" ∈ GT := gt_11 (List.mem_of_getElem? (i := 83) rfl) rfl
theorem wd_2484 : Cond.fieldLink "CarHouseModel$Troubles" 53 "CarHouseModel$Troubles" "happened" "[I" ∈ GT := gt_11 (List.mem_of_getElem? (i := 84) rfl) rfl
theorem wd_2485 : Cond.fieldLink "CarHouseModel$Troubles" 56 "CarHouseModel$Troubles" "snapshot" "[I" ∈ GT := gt_11 (List.mem_of_getElem? (i := 85) rfl) rfl
theorem wd_2486 : Cond.fieldLink "CarHouseModel$Troubles" 72 "CarHouseModel$Troubles" "last" "I" ∈ GT := gt_11 (List.mem_of_getElem? (i := 86) rfl) rfl
theorem wd_2487 : Cond.fieldLink "CarHouseModel$Troubles" 75 "CarHouseModel$Troubles" "gone" "I" ∈ GT := gt_11 (List.mem_of_getElem? (i := 87) rfl) rfl
theorem wd_2488 : Cond.fieldLink "CarHouseModel$Troubles" 59 "CarHouseModel$Troubles" "displaced" "[I" ∈ GT := gt_11 (List.mem_of_getElem? (i := 88) rfl) rfl
theorem wd_2489 : Cond.fieldLink "CarHouseModel$Troubles" 62 "CarHouseModel$Troubles" "offCondition" "[Z" ∈ GT := gt_11 (List.mem_of_getElem? (i := 89) rfl) rfl
theorem wd_2490 : Cond.fieldLink "CarHouseModel$Troubles" 78 "CarHouseModel$Troubles" "cut" "Z" ∈ GT := gt_11 (List.mem_of_getElem? (i := 90) rfl) rfl
theorem wd_2491 : Cond.fieldLink "CarHouseModel$Troubles" 82 "CarHouseModel$Troubles" "cycles" "I" ∈ GT := gt_11 (List.mem_of_getElem? (i := 91) rfl) rfl
theorem wd_2492 : Cond.fieldLink "CarHouseModel$Troubles" 85 "CarHouseModel$Troubles" "events" "I" ∈ GT := gt_11 (List.mem_of_getElem? (i := 92) rfl) rfl
theorem wd_2493 : Cond.lays "CarHouseModel$Troubles" "CarHouseModel$Troubles" "code" "I" ∈ GT := gt_11 (List.mem_of_getElem? (i := 93) rfl) rfl
theorem wd_2495 : Cond.lays "CarHouseModel$Troubles" "CarHouseModel$Troubles" "room" "I" ∈ GT := gt_11 (List.mem_of_getElem? (i := 95) rfl) rfl
theorem wd_2497 : Cond.lays "CarHouseModel$Troubles" "CarHouseModel$Troubles" "codes" "I" ∈ GT := gt_11 (List.mem_of_getElem? (i := 97) rfl) rfl
theorem wd_2499 : Cond.laysFinal "CarHouseModel$Troubles" "CarHouseModel$Troubles" "priority" "[I" ∈ GT := gt_11 (List.mem_of_getElem? (i := 99) rfl) rfl
theorem wd_2501 : Cond.laysFinal "CarHouseModel$Troubles" "CarHouseModel$Troubles" "up" "[I" ∈ GT := gt_11 (List.mem_of_getElem? (i := 101) rfl) rfl
theorem wd_2503 : Cond.laysFinal "CarHouseModel$Troubles" "CarHouseModel$Troubles" "down" "[I" ∈ GT := gt_11 (List.mem_of_getElem? (i := 103) rfl) rfl
theorem wd_2505 : Cond.laysFinal "CarHouseModel$Troubles" "CarHouseModel$Troubles" "parent" "[I" ∈ GT := gt_11 (List.mem_of_getElem? (i := 105) rfl) rfl
theorem wd_2507 : Cond.laysFinal "CarHouseModel$Troubles" "CarHouseModel$Troubles" "counter" "[I" ∈ GT := gt_11 (List.mem_of_getElem? (i := 107) rfl) rfl
theorem wd_2509 : Cond.laysFinal "CarHouseModel$Troubles" "CarHouseModel$Troubles" "bit" "[Z" ∈ GT := gt_11 (List.mem_of_getElem? (i := 109) rfl) rfl
theorem wd_2511 : Cond.laysFinal "CarHouseModel$Troubles" "CarHouseModel$Troubles" "trips" "[I" ∈ GT := gt_11 (List.mem_of_getElem? (i := 111) rfl) rfl
theorem wd_2513 : Cond.laysFinal "CarHouseModel$Troubles" "CarHouseModel$Troubles" "age" "[I" ∈ GT := gt_11 (List.mem_of_getElem? (i := 113) rfl) rfl
theorem wd_2515 : Cond.laysFinal "CarHouseModel$Troubles" "CarHouseModel$Troubles" "good" "[I" ∈ GT := gt_11 (List.mem_of_getElem? (i := 115) rfl) rfl
theorem wd_2517 : Cond.laysFinal "CarHouseModel$Troubles" "CarHouseModel$Troubles" "keptBit" "[Z" ∈ GT := gt_11 (List.mem_of_getElem? (i := 117) rfl) rfl
theorem wd_2519 : Cond.laysFinal "CarHouseModel$Troubles" "CarHouseModel$Troubles" "keptTrips" "[I" ∈ GT := gt_11 (List.mem_of_getElem? (i := 119) rfl) rfl
theorem wd_2521 : Cond.laysFinal "CarHouseModel$Troubles" "CarHouseModel$Troubles" "keptAge" "[I" ∈ GT := gt_11 (List.mem_of_getElem? (i := 121) rfl) rfl
theorem wd_2523 : Cond.laysFinal "CarHouseModel$Troubles" "CarHouseModel$Troubles" "keptGood" "[I" ∈ GT := gt_11 (List.mem_of_getElem? (i := 123) rfl) rfl
theorem wd_2525 : Cond.laysFinal "CarHouseModel$Troubles" "CarHouseModel$Troubles" "stored" "[I" ∈ GT := gt_11 (List.mem_of_getElem? (i := 125) rfl) rfl
theorem wd_2527 : Cond.laysFinal "CarHouseModel$Troubles" "CarHouseModel$Troubles" "happened" "[I" ∈ GT := gt_11 (List.mem_of_getElem? (i := 127) rfl) rfl
theorem wd_2529 : Cond.laysFinal "CarHouseModel$Troubles" "CarHouseModel$Troubles" "snapshot" "[I" ∈ GT := gt_11 (List.mem_of_getElem? (i := 129) rfl) rfl
theorem wd_2531 : Cond.lays "CarHouseModel$Troubles" "CarHouseModel$Troubles" "last" "I" ∈ GT := gt_11 (List.mem_of_getElem? (i := 131) rfl) rfl
theorem wd_2533 : Cond.lays "CarHouseModel$Troubles" "CarHouseModel$Troubles" "gone" "I" ∈ GT := gt_11 (List.mem_of_getElem? (i := 133) rfl) rfl
theorem wd_2535 : Cond.laysFinal "CarHouseModel$Troubles" "CarHouseModel$Troubles" "displaced" "[I" ∈ GT := gt_11 (List.mem_of_getElem? (i := 135) rfl) rfl
theorem wd_2537 : Cond.laysFinal "CarHouseModel$Troubles" "CarHouseModel$Troubles" "offCondition" "[Z" ∈ GT := gt_11 (List.mem_of_getElem? (i := 137) rfl) rfl
theorem wd_2539 : Cond.lays "CarHouseModel$Troubles" "CarHouseModel$Troubles" "cut" "Z" ∈ GT := gt_11 (List.mem_of_getElem? (i := 139) rfl) rfl
theorem wd_2541 : Cond.lays "CarHouseModel$Troubles" "CarHouseModel$Troubles" "cycles" "I" ∈ GT := gt_11 (List.mem_of_getElem? (i := 141) rfl) rfl
theorem wd_2543 : Cond.lays "CarHouseModel$Troubles" "CarHouseModel$Troubles" "events" "I" ∈ GT := gt_11 (List.mem_of_getElem? (i := 143) rfl) rfl
theorem wd_2546 : Cond.classLink "CarHouseModel" 209 "CarHouseModel$Pack" ∈ GT := gt_11 (List.mem_of_getElem? (i := 146) rfl) rfl
theorem wd_2548 : Cond.classLink "CarHouseModel" 215 "CarHouseModel$Chart" ∈ GT := gt_11 (List.mem_of_getElem? (i := 148) rfl) rfl
theorem wd_2550 : Cond.instantiable "CarHouseModel$Pack" 27 ∈ GT := gt_11 (List.mem_of_getElem? (i := 150) rfl) rfl
theorem nd_2551 : Cond.methodLinkNest "CarHouseModel" 279 ⟨"CarHouseModel$Pack", "<init>", "()V"⟩ "CarHouseModel" ∈ NT := gn_11 (List.mem_of_getElem? (i := 151) rfl) rfl
theorem wd_2552 : Cond.instanceMethod ⟨"CarHouseModel$Pack", "<init>", "()V"⟩ ∈ GT := gt_11 (List.mem_of_getElem? (i := 152) rfl) rfl
theorem wd_2553 : Cond.code ⟨"CarHouseModel$Pack", "<init>", "()V"⟩ prog_19_method_1_code 1 none ∈ GT := gt_11 (List.mem_of_getElem? (i := 153) rfl) rfl
theorem wd_2554 : Cond.methodLink "CarHouseModel$Pack" 1 ⟨"java/lang/Object", "<init>", "()V"⟩ ∈ GT := gt_11 (List.mem_of_getElem? (i := 154) rfl) rfl
theorem wd_2555 : Cond.fieldLink "CarHouseModel$Pack" 91 "CarHouseModel$Pack" "code" "I" ∈ GT := gt_11 (List.mem_of_getElem? (i := 155) rfl) rfl
theorem wd_2556 : Cond.fieldLink "CarHouseModel$Pack" 77 "CarHouseModel$Pack" "capacity" "I" ∈ GT := gt_11 (List.mem_of_getElem? (i := 156) rfl) rfl
theorem wd_2557 : Cond.fieldLink "CarHouseModel$Pack" 81 "CarHouseModel$Pack" "signals" "I" ∈ GT := gt_11 (List.mem_of_getElem? (i := 157) rfl) rfl
theorem wd_2558 : Cond.fieldLink "CarHouseModel$Pack" 7 "CarHouseModel$Pack" "bits" "[I" ∈ GT := gt_11 (List.mem_of_getElem? (i := 158) rfl) rfl
theorem wd_2559 : Cond.fieldLink "CarHouseModel$Pack" 13 "CarHouseModel$Pack" "period" "[I" ∈ GT := gt_11 (List.mem_of_getElem? (i := 159) rfl) rfl
theorem wd_2560 : Cond.fieldLink "CarHouseModel$Pack" 16 "CarHouseModel$Pack" "turned" "[Z" ∈ GT := gt_11 (List.mem_of_getElem? (i := 160) rfl) rfl
theorem wd_2561 : Cond.fieldLink "CarHouseModel$Pack" 20 "CarHouseModel$Pack" "variant" "[I" ∈ GT := gt_11 (List.mem_of_getElem? (i := 161) rfl) rfl
theorem wd_2562 : Cond.fieldLink "CarHouseModel$Pack" 23 "CarHouseModel$Pack" "group" "[I" ∈ GT := gt_11 (List.mem_of_getElem? (i := 162) rfl) rfl
theorem wd_2563 : Cond.fieldLink "CarHouseModel$Pack" 26 "CarHouseModel$Pack" "chooser" "[I" ∈ GT := gt_11 (List.mem_of_getElem? (i := 163) rfl) rfl
theorem wd_2564 : Cond.fieldLink "CarHouseModel$Pack" 29 "CarHouseModel$Pack" "toldFrame" "[I" ∈ GT := gt_11 (List.mem_of_getElem? (i := 164) rfl) rfl
theorem wd_2565 : Cond.fieldLink "CarHouseModel$Pack" 32 "CarHouseModel$Pack" "toldOctet" "[I" ∈ GT := gt_11 (List.mem_of_getElem? (i := 165) rfl) rfl
theorem wd_2566 : Cond.fieldLink "CarHouseModel$Pack" 35 "CarHouseModel$Pack" "frame" "[I" ∈ GT := gt_11 (List.mem_of_getElem? (i := 166) rfl) rfl
theorem wd_2567 : Cond.fieldLink "CarHouseModel$Pack" 38 "CarHouseModel$Pack" "octet" "[I" ∈ GT := gt_11 (List.mem_of_getElem? (i := 167) rfl) rfl
theorem wd_2568 : Cond.fieldLink "CarHouseModel$Pack" 41 "CarHouseModel$Pack" "stays" "[Z" ∈ GT := gt_11 (List.mem_of_getElem? (i := 168) rfl) rfl
theorem wd_2569 : Cond.fieldLink "CarHouseModel$Pack" 87 "CarHouseModel$Pack" "exact" "Z" ∈ GT := gt_11 (List.mem_of_getElem? (i := 169) rfl) rfl
theorem wd_2570 : Cond.fieldLink "CarHouseModel$Pack" 84 "CarHouseModel$Pack" "matrices" "I" ∈ GT := gt_11 (List.mem_of_getElem? (i := 170) rfl) rfl
theorem wd_2571 : Cond.fieldLink "CarHouseModel$Pack" 44 "CarHouseModel$Pack" "atFrame" "[I" ∈ GT := gt_11 (List.mem_of_getElem? (i := 171) rfl) rfl
theorem wd_2572 : Cond.fieldLink "CarHouseModel$Pack" 47 "CarHouseModel$Pack" "atBit" "[I" ∈ GT := gt_11 (List.mem_of_getElem? (i := 172) rfl) rfl
theorem wd_2573 : Cond.fieldLink "CarHouseModel$Pack" 50 "CarHouseModel$Pack" "begin" "[I" ∈ GT := gt_11 (List.mem_of_getElem? (i := 173) rfl) rfl
theorem wd_2574 : Cond.fieldLink "CarHouseModel$Pack" 53 "CarHouseModel$Pack" "held" "[I" ∈ GT := gt_11 (List.mem_of_getElem? (i := 174) rfl) rfl
theorem wd_2575 : Cond.fieldLink "CarHouseModel$Pack" 56 "CarHouseModel$Pack" "nowFrame" "[I" ∈ GT := gt_11 (List.mem_of_getElem? (i := 175) rfl) rfl
theorem wd_2576 : Cond.fieldLink "CarHouseModel$Pack" 59 "CarHouseModel$Pack" "nowOctet" "[I" ∈ GT := gt_11 (List.mem_of_getElem? (i := 176) rfl) rfl
theorem wd_2577 : Cond.fieldLink "CarHouseModel$Pack" 62 "CarHouseModel$Pack" "row" "[I" ∈ GT := gt_11 (List.mem_of_getElem? (i := 177) rfl) rfl
theorem wd_2578 : Cond.fieldLink "CarHouseModel$Pack" 65 "CarHouseModel$Pack" "order" "[I" ∈ GT := gt_11 (List.mem_of_getElem? (i := 178) rfl) rfl
theorem wd_2579 : Cond.fieldLink "CarHouseModel$Pack" 68 "CarHouseModel$Pack" "choice" "[I" ∈ GT := gt_11 (List.mem_of_getElem? (i := 179) rfl) rfl
theorem wd_2580 : Cond.fieldLink "CarHouseModel$Pack" 71 "CarHouseModel$Pack" "opened" "[Z" ∈ GT := gt_11 (List.mem_of_getElem? (i := 180) rfl) rfl
theorem wd_2581 : Cond.fieldLink "CarHouseModel$Pack" 74 "CarHouseModel$Pack" "sizes" "[I" ∈ GT := gt_11 (List.mem_of_getElem? (i := 181) rfl) rfl
theorem wd_2582 : Cond.lays "CarHouseModel$Pack" "CarHouseModel$Pack" "code" "I" ∈ GT := gt_11 (List.mem_of_getElem? (i := 182) rfl) rfl
theorem wd_2584 : Cond.lays "CarHouseModel$Pack" "CarHouseModel$Pack" "capacity" "I" ∈ GT := gt_11 (List.mem_of_getElem? (i := 184) rfl) rfl
theorem wd_2586 : Cond.lays "CarHouseModel$Pack" "CarHouseModel$Pack" "signals" "I" ∈ GT := gt_11 (List.mem_of_getElem? (i := 186) rfl) rfl
theorem wd_2588 : Cond.laysFinal "CarHouseModel$Pack" "CarHouseModel$Pack" "bits" "[I" ∈ GT := gt_11 (List.mem_of_getElem? (i := 188) rfl) rfl
theorem wd_2590 : Cond.laysFinal "CarHouseModel$Pack" "CarHouseModel$Pack" "period" "[I" ∈ GT := gt_11 (List.mem_of_getElem? (i := 190) rfl) rfl
theorem wd_2592 : Cond.laysFinal "CarHouseModel$Pack" "CarHouseModel$Pack" "turned" "[Z" ∈ GT := gt_11 (List.mem_of_getElem? (i := 192) rfl) rfl
theorem wd_2594 : Cond.laysFinal "CarHouseModel$Pack" "CarHouseModel$Pack" "variant" "[I" ∈ GT := gt_11 (List.mem_of_getElem? (i := 194) rfl) rfl
theorem wd_2596 : Cond.laysFinal "CarHouseModel$Pack" "CarHouseModel$Pack" "group" "[I" ∈ GT := gt_11 (List.mem_of_getElem? (i := 196) rfl) rfl
theorem wd_2598 : Cond.laysFinal "CarHouseModel$Pack" "CarHouseModel$Pack" "chooser" "[I" ∈ GT := gt_11 (List.mem_of_getElem? (i := 198) rfl) rfl
theorem wd_2600 : Cond.laysFinal "CarHouseModel$Pack" "CarHouseModel$Pack" "toldFrame" "[I" ∈ GT := gt_11 (List.mem_of_getElem? (i := 200) rfl) rfl
theorem wd_2602 : Cond.laysFinal "CarHouseModel$Pack" "CarHouseModel$Pack" "toldOctet" "[I" ∈ GT := gt_11 (List.mem_of_getElem? (i := 202) rfl) rfl
theorem wd_2604 : Cond.laysFinal "CarHouseModel$Pack" "CarHouseModel$Pack" "frame" "[I" ∈ GT := gt_11 (List.mem_of_getElem? (i := 204) rfl) rfl
theorem wd_2606 : Cond.laysFinal "CarHouseModel$Pack" "CarHouseModel$Pack" "octet" "[I" ∈ GT := gt_11 (List.mem_of_getElem? (i := 206) rfl) rfl
theorem wd_2608 : Cond.laysFinal "CarHouseModel$Pack" "CarHouseModel$Pack" "stays" "[Z" ∈ GT := gt_11 (List.mem_of_getElem? (i := 208) rfl) rfl
theorem wd_2610 : Cond.lays "CarHouseModel$Pack" "CarHouseModel$Pack" "exact" "Z" ∈ GT := gt_11 (List.mem_of_getElem? (i := 210) rfl) rfl
theorem wd_2612 : Cond.lays "CarHouseModel$Pack" "CarHouseModel$Pack" "matrices" "I" ∈ GT := gt_11 (List.mem_of_getElem? (i := 212) rfl) rfl
theorem wd_2614 : Cond.laysFinal "CarHouseModel$Pack" "CarHouseModel$Pack" "atFrame" "[I" ∈ GT := gt_11 (List.mem_of_getElem? (i := 214) rfl) rfl
theorem wd_2616 : Cond.laysFinal "CarHouseModel$Pack" "CarHouseModel$Pack" "atBit" "[I" ∈ GT := gt_11 (List.mem_of_getElem? (i := 216) rfl) rfl
theorem wd_2618 : Cond.laysFinal "CarHouseModel$Pack" "CarHouseModel$Pack" "begin" "[I" ∈ GT := gt_11 (List.mem_of_getElem? (i := 218) rfl) rfl
theorem wd_2620 : Cond.laysFinal "CarHouseModel$Pack" "CarHouseModel$Pack" "held" "[I" ∈ GT := gt_11 (List.mem_of_getElem? (i := 220) rfl) rfl
theorem wd_2622 : Cond.laysFinal "CarHouseModel$Pack" "CarHouseModel$Pack" "nowFrame" "[I" ∈ GT := gt_11 (List.mem_of_getElem? (i := 222) rfl) rfl
theorem wd_2624 : Cond.laysFinal "CarHouseModel$Pack" "CarHouseModel$Pack" "nowOctet" "[I" ∈ GT := gt_11 (List.mem_of_getElem? (i := 224) rfl) rfl
theorem wd_2626 : Cond.laysFinal "CarHouseModel$Pack" "CarHouseModel$Pack" "row" "[I" ∈ GT := gt_11 (List.mem_of_getElem? (i := 226) rfl) rfl
theorem wd_2628 : Cond.laysFinal "CarHouseModel$Pack" "CarHouseModel$Pack" "order" "[I" ∈ GT := gt_11 (List.mem_of_getElem? (i := 228) rfl) rfl
theorem wd_2630 : Cond.laysFinal "CarHouseModel$Pack" "CarHouseModel$Pack" "choice" "[I" ∈ GT := gt_11 (List.mem_of_getElem? (i := 230) rfl) rfl
theorem wd_2632 : Cond.laysFinal "CarHouseModel$Pack" "CarHouseModel$Pack" "opened" "[Z" ∈ GT := gt_11 (List.mem_of_getElem? (i := 232) rfl) rfl
theorem wd_2634 : Cond.laysFinal "CarHouseModel$Pack" "CarHouseModel$Pack" "sizes" "[I" ∈ GT := gt_11 (List.mem_of_getElem? (i := 234) rfl) rfl
theorem wd_2637 : Cond.instantiable "CarHouseModel$Chart" 42 ∈ GT := gt_11 (List.mem_of_getElem? (i := 237) rfl) rfl
theorem nd_2638 : Cond.methodLinkNest "CarHouseModel" 280 ⟨"CarHouseModel$Chart", "<init>", "()V"⟩ "CarHouseModel" ∈ NT := gn_11 (List.mem_of_getElem? (i := 238) rfl) rfl
theorem wd_2639 : Cond.instanceMethod ⟨"CarHouseModel$Chart", "<init>", "()V"⟩ ∈ GT := gt_11 (List.mem_of_getElem? (i := 239) rfl) rfl
theorem wd_2640 : Cond.code ⟨"CarHouseModel$Chart", "<init>", "()V"⟩ prog_16_method_1_code 1 none ∈ GT := gt_12 (List.mem_of_getElem? (i := 0) rfl) rfl
theorem wd_2641 : Cond.methodLink "CarHouseModel$Chart" 1 ⟨"java/lang/Object", "<init>", "()V"⟩ ∈ GT := gt_12 (List.mem_of_getElem? (i := 1) rfl) rfl
theorem wd_2642 : Cond.fieldLink "CarHouseModel$Chart" 132 "CarHouseModel$Chart" "code" "I" ∈ GT := gt_12 (List.mem_of_getElem? (i := 2) rfl) rfl
theorem wd_2643 : Cond.fieldLink "CarHouseModel$Chart" 99 "CarHouseModel$Chart" "limit" "I" ∈ GT := gt_12 (List.mem_of_getElem? (i := 3) rfl) rfl
theorem wd_2644 : Cond.fieldLink "CarHouseModel$Chart" 103 "CarHouseModel$Chart" "states" "I" ∈ GT := gt_12 (List.mem_of_getElem? (i := 4) rfl) rfl
theorem wd_2645 : Cond.fieldLink "CarHouseModel$Chart" 7 "CarHouseModel$Chart" "kind" "[I" ∈ GT := gt_12 (List.mem_of_getElem? (i := 5) rfl) rfl
theorem wd_2646 : Cond.fieldLink "CarHouseModel$Chart" 13 "CarHouseModel$Chart" "parent" "[I" ∈ GT := gt_12 (List.mem_of_getElem? (i := 6) rfl) rfl
theorem wd_2647 : Cond.fieldLink "CarHouseModel$Chart" 16 "CarHouseModel$Chart" "depth" "[I" ∈ GT := gt_12 (List.mem_of_getElem? (i := 7) rfl) rfl
theorem wd_2648 : Cond.fieldLink "CarHouseModel$Chart" 19 "CarHouseModel$Chart" "history" "[I" ∈ GT := gt_12 (List.mem_of_getElem? (i := 8) rfl) rfl
theorem wd_2649 : Cond.fieldLink "CarHouseModel$Chart" 22 "CarHouseModel$Chart" "ticks" "[J" ∈ GT := gt_12 (List.mem_of_getElem? (i := 9) rfl) rfl
theorem wd_2650 : Cond.fieldLink "CarHouseModel$Chart" 26 "CarHouseModel$Chart" "since" "[J" ∈ GT := gt_12 (List.mem_of_getElem? (i := 10) rfl) rfl
theorem wd_2651 : Cond.fieldLink "CarHouseModel$Chart" 29 "CarHouseModel$Chart" "spoke" "[Z" ∈ GT := gt_12 (List.mem_of_getElem? (i := 11) rfl) rfl
theorem wd_2652 : Cond.fieldLink "CarHouseModel$Chart" 33 "CarHouseModel$Chart" "was" "[Z" ∈ GT := gt_12 (List.mem_of_getElem? (i := 12) rfl) rfl
theorem wd_2653 : Cond.fieldLink "CarHouseModel$Chart" 36 "CarHouseModel$Chart" "active" "[Z" ∈ GT := gt_12 (List.mem_of_getElem? (i := 13) rfl) rfl
theorem wd_2654 : Cond.fieldLink "CarHouseModel$Chart" 106 "CarHouseModel$Chart" "edges" "I" ∈ GT := gt_12 (List.mem_of_getElem? (i := 14) rfl) rfl
theorem wd_2655 : Cond.fieldLink "CarHouseModel$Chart" 39 "CarHouseModel$Chart" "from" "[I" ∈ GT := gt_12 (List.mem_of_getElem? (i := 15) rfl) rfl
theorem wd_2656 : Cond.fieldLink "CarHouseModel$Chart" 42 "CarHouseModel$Chart" "to" "[I" ∈ GT := gt_12 (List.mem_of_getElem? (i := 16) rfl) rfl
theorem wd_2657 : Cond.fieldLink "CarHouseModel$Chart" 45 "CarHouseModel$Chart" "event" "[I" ∈ GT := gt_12 (List.mem_of_getElem? (i := 17) rfl) rfl
theorem wd_2658 : Cond.fieldLink "CarHouseModel$Chart" 48 "CarHouseModel$Chart" "guard" "[I" ∈ GT := gt_12 (List.mem_of_getElem? (i := 18) rfl) rfl
theorem wd_2659 : Cond.fieldLink "CarHouseModel$Chart" 51 "CarHouseModel$Chart" "used" "[Z" ∈ GT := gt_12 (List.mem_of_getElem? (i := 19) rfl) rfl
theorem wd_2660 : Cond.fieldLink "CarHouseModel$Chart" 54 "CarHouseModel$Chart" "held" "[Z" ∈ GT := gt_12 (List.mem_of_getElem? (i := 20) rfl) rfl
theorem wd_2661 : Cond.fieldLink "CarHouseModel$Chart" 57 "CarHouseModel$Chart" "failed" "[Z" ∈ GT := gt_12 (List.mem_of_getElem? (i := 21) rfl) rfl
theorem wd_2662 : Cond.fieldLink "CarHouseModel$Chart" 109 "CarHouseModel$Chart" "acts" "I" ∈ GT := gt_12 (List.mem_of_getElem? (i := 22) rfl) rfl
theorem wd_2663 : Cond.fieldLink "CarHouseModel$Chart" 60 "CarHouseModel$Chart" "actOf" "[I" ∈ GT := gt_12 (List.mem_of_getElem? (i := 23) rfl) rfl
theorem wd_2664 : Cond.fieldLink "CarHouseModel$Chart" 63 "CarHouseModel$Chart" "actWhen" "[I" ∈ GT := gt_12 (List.mem_of_getElem? (i := 24) rfl) rfl
theorem wd_2665 : Cond.fieldLink "CarHouseModel$Chart" 66 "CarHouseModel$Chart" "actName" "[I" ∈ GT := gt_12 (List.mem_of_getElem? (i := 25) rfl) rfl
theorem wd_2666 : Cond.fieldLink "CarHouseModel$Chart" 69 "CarHouseModel$Chart" "actValue" "[J" ∈ GT := gt_12 (List.mem_of_getElem? (i := 26) rfl) rfl
theorem wd_2667 : Cond.fieldLink "CarHouseModel$Chart" 72 "CarHouseModel$Chart" "data" "[J" ∈ GT := gt_12 (List.mem_of_getElem? (i := 27) rfl) rfl
theorem wd_2668 : Cond.fieldLink "CarHouseModel$Chart" 112 "CarHouseModel$Chart" "told" "I" ∈ GT := gt_12 (List.mem_of_getElem? (i := 28) rfl) rfl
theorem wd_2669 : Cond.fieldLink "CarHouseModel$Chart" 115 "CarHouseModel$Chart" "started" "Z" ∈ GT := gt_12 (List.mem_of_getElem? (i := 29) rfl) rfl
theorem wd_2670 : Cond.fieldLink "CarHouseModel$Chart" 119 "CarHouseModel$Chart" "now" "J" ∈ GT := gt_12 (List.mem_of_getElem? (i := 30) rfl) rfl
theorem wd_2671 : Cond.fieldLink "CarHouseModel$Chart" 123 "CarHouseModel$Chart" "dropped" "I" ∈ GT := gt_12 (List.mem_of_getElem? (i := 31) rfl) rfl
theorem wd_2672 : Cond.fieldLink "CarHouseModel$Chart" 126 "CarHouseModel$Chart" "zeros" "I" ∈ GT := gt_12 (List.mem_of_getElem? (i := 32) rfl) rfl
theorem wd_2673 : Cond.fieldLink "CarHouseModel$Chart" 129 "CarHouseModel$Chart" "rows" "I" ∈ GT := gt_12 (List.mem_of_getElem? (i := 33) rfl) rfl
theorem wd_2674 : Cond.fieldLink "CarHouseModel$Chart" 75 "CarHouseModel$Chart" "row" "[I" ∈ GT := gt_12 (List.mem_of_getElem? (i := 34) rfl) rfl
theorem wd_2675 : Cond.fieldLink "CarHouseModel$Chart" 164 "CarHouseModel$Chart" "ready" "I" ∈ GT := gt_12 (List.mem_of_getElem? (i := 35) rfl) rfl
theorem wd_2676 : Cond.fieldLink "CarHouseModel$Chart" 78 "CarHouseModel$Chart" "readyEdge" "[I" ∈ GT := gt_12 (List.mem_of_getElem? (i := 36) rfl) rfl
theorem wd_2677 : Cond.fieldLink "CarHouseModel$Chart" 173 "CarHouseModel$Chart" "taken" "I" ∈ GT := gt_12 (List.mem_of_getElem? (i := 37) rfl) rfl
theorem wd_2678 : Cond.fieldLink "CarHouseModel$Chart" 81 "CarHouseModel$Chart" "takenEdge" "[I" ∈ GT := gt_12 (List.mem_of_getElem? (i := 38) rfl) rfl
theorem wd_2679 : Cond.fieldLink "CarHouseModel$Chart" 84 "CarHouseModel$Chart" "gone" "[Z" ∈ GT := gt_12 (List.mem_of_getElem? (i := 39) rfl) rfl
theorem wd_2680 : Cond.fieldLink "CarHouseModel$Chart" 87 "CarHouseModel$Chart" "exits" "[Z" ∈ GT := gt_12 (List.mem_of_getElem? (i := 40) rfl) rfl
theorem wd_2681 : Cond.fieldLink "CarHouseModel$Chart" 90 "CarHouseModel$Chart" "enters" "[Z" ∈ GT := gt_12 (List.mem_of_getElem? (i := 41) rfl) rfl
theorem wd_2682 : Cond.fieldLink "CarHouseModel$Chart" 93 "CarHouseModel$Chart" "shallow" "[Z" ∈ GT := gt_12 (List.mem_of_getElem? (i := 42) rfl) rfl
theorem wd_2683 : Cond.fieldLink "CarHouseModel$Chart" 96 "CarHouseModel$Chart" "deep" "[Z" ∈ GT := gt_12 (List.mem_of_getElem? (i := 43) rfl) rfl
theorem wd_2684 : Cond.lays "CarHouseModel$Chart" "CarHouseModel$Chart" "code" "I" ∈ GT := gt_12 (List.mem_of_getElem? (i := 44) rfl) rfl
theorem wd_2686 : Cond.lays "CarHouseModel$Chart" "CarHouseModel$Chart" "limit" "I" ∈ GT := gt_12 (List.mem_of_getElem? (i := 46) rfl) rfl
theorem wd_2688 : Cond.lays "CarHouseModel$Chart" "CarHouseModel$Chart" "states" "I" ∈ GT := gt_12 (List.mem_of_getElem? (i := 48) rfl) rfl
theorem wd_2690 : Cond.laysFinal "CarHouseModel$Chart" "CarHouseModel$Chart" "kind" "[I" ∈ GT := gt_12 (List.mem_of_getElem? (i := 50) rfl) rfl
theorem wd_2692 : Cond.laysFinal "CarHouseModel$Chart" "CarHouseModel$Chart" "parent" "[I" ∈ GT := gt_12 (List.mem_of_getElem? (i := 52) rfl) rfl
theorem wd_2694 : Cond.laysFinal "CarHouseModel$Chart" "CarHouseModel$Chart" "depth" "[I" ∈ GT := gt_12 (List.mem_of_getElem? (i := 54) rfl) rfl
theorem wd_2696 : Cond.laysFinal "CarHouseModel$Chart" "CarHouseModel$Chart" "history" "[I" ∈ GT := gt_12 (List.mem_of_getElem? (i := 56) rfl) rfl
theorem wd_2698 : Cond.laysFinal "CarHouseModel$Chart" "CarHouseModel$Chart" "ticks" "[J" ∈ GT := gt_12 (List.mem_of_getElem? (i := 58) rfl) rfl
theorem wd_2700 : Cond.laysFinal "CarHouseModel$Chart" "CarHouseModel$Chart" "since" "[J" ∈ GT := gt_12 (List.mem_of_getElem? (i := 60) rfl) rfl
theorem wd_2702 : Cond.laysFinal "CarHouseModel$Chart" "CarHouseModel$Chart" "spoke" "[Z" ∈ GT := gt_12 (List.mem_of_getElem? (i := 62) rfl) rfl
theorem wd_2704 : Cond.laysFinal "CarHouseModel$Chart" "CarHouseModel$Chart" "was" "[Z" ∈ GT := gt_12 (List.mem_of_getElem? (i := 64) rfl) rfl
theorem wd_2706 : Cond.laysFinal "CarHouseModel$Chart" "CarHouseModel$Chart" "active" "[Z" ∈ GT := gt_12 (List.mem_of_getElem? (i := 66) rfl) rfl
theorem wd_2708 : Cond.lays "CarHouseModel$Chart" "CarHouseModel$Chart" "edges" "I" ∈ GT := gt_12 (List.mem_of_getElem? (i := 68) rfl) rfl
theorem wd_2710 : Cond.laysFinal "CarHouseModel$Chart" "CarHouseModel$Chart" "from" "[I" ∈ GT := gt_12 (List.mem_of_getElem? (i := 70) rfl) rfl
theorem wd_2712 : Cond.laysFinal "CarHouseModel$Chart" "CarHouseModel$Chart" "to" "[I" ∈ GT := gt_12 (List.mem_of_getElem? (i := 72) rfl) rfl
theorem wd_2714 : Cond.laysFinal "CarHouseModel$Chart" "CarHouseModel$Chart" "event" "[I" ∈ GT := gt_12 (List.mem_of_getElem? (i := 74) rfl) rfl
theorem wd_2716 : Cond.laysFinal "CarHouseModel$Chart" "CarHouseModel$Chart" "guard" "[I" ∈ GT := gt_12 (List.mem_of_getElem? (i := 76) rfl) rfl
theorem wd_2718 : Cond.laysFinal "CarHouseModel$Chart" "CarHouseModel$Chart" "used" "[Z" ∈ GT := gt_12 (List.mem_of_getElem? (i := 78) rfl) rfl
theorem wd_2720 : Cond.laysFinal "CarHouseModel$Chart" "CarHouseModel$Chart" "held" "[Z" ∈ GT := gt_12 (List.mem_of_getElem? (i := 80) rfl) rfl
theorem wd_2722 : Cond.laysFinal "CarHouseModel$Chart" "CarHouseModel$Chart" "failed" "[Z" ∈ GT := gt_12 (List.mem_of_getElem? (i := 82) rfl) rfl
theorem wd_2724 : Cond.lays "CarHouseModel$Chart" "CarHouseModel$Chart" "acts" "I" ∈ GT := gt_12 (List.mem_of_getElem? (i := 84) rfl) rfl
theorem wd_2726 : Cond.laysFinal "CarHouseModel$Chart" "CarHouseModel$Chart" "actOf" "[I" ∈ GT := gt_12 (List.mem_of_getElem? (i := 86) rfl) rfl
theorem wd_2728 : Cond.laysFinal "CarHouseModel$Chart" "CarHouseModel$Chart" "actWhen" "[I" ∈ GT := gt_12 (List.mem_of_getElem? (i := 88) rfl) rfl
theorem wd_2730 : Cond.laysFinal "CarHouseModel$Chart" "CarHouseModel$Chart" "actName" "[I" ∈ GT := gt_12 (List.mem_of_getElem? (i := 90) rfl) rfl
theorem wd_2732 : Cond.laysFinal "CarHouseModel$Chart" "CarHouseModel$Chart" "actValue" "[J" ∈ GT := gt_12 (List.mem_of_getElem? (i := 92) rfl) rfl
theorem wd_2734 : Cond.laysFinal "CarHouseModel$Chart" "CarHouseModel$Chart" "data" "[J" ∈ GT := gt_12 (List.mem_of_getElem? (i := 94) rfl) rfl
theorem wd_2736 : Cond.lays "CarHouseModel$Chart" "CarHouseModel$Chart" "told" "I" ∈ GT := gt_12 (List.mem_of_getElem? (i := 96) rfl) rfl
theorem wd_2738 : Cond.lays "CarHouseModel$Chart" "CarHouseModel$Chart" "started" "Z" ∈ GT := gt_12 (List.mem_of_getElem? (i := 98) rfl) rfl
theorem wd_2740 : Cond.lays "CarHouseModel$Chart" "CarHouseModel$Chart" "now" "J" ∈ GT := gt_12 (List.mem_of_getElem? (i := 100) rfl) rfl
theorem wd_2742 : Cond.lays "CarHouseModel$Chart" "CarHouseModel$Chart" "dropped" "I" ∈ GT := gt_12 (List.mem_of_getElem? (i := 102) rfl) rfl
theorem wd_2744 : Cond.lays "CarHouseModel$Chart" "CarHouseModel$Chart" "zeros" "I" ∈ GT := gt_12 (List.mem_of_getElem? (i := 104) rfl) rfl
theorem wd_2746 : Cond.lays "CarHouseModel$Chart" "CarHouseModel$Chart" "rows" "I" ∈ GT := gt_12 (List.mem_of_getElem? (i := 106) rfl) rfl
theorem wd_2748 : Cond.laysFinal "CarHouseModel$Chart" "CarHouseModel$Chart" "row" "[I" ∈ GT := gt_12 (List.mem_of_getElem? (i := 108) rfl) rfl
theorem wd_2750 : Cond.lays "CarHouseModel$Chart" "CarHouseModel$Chart" "ready" "I" ∈ GT := gt_12 (List.mem_of_getElem? (i := 110) rfl) rfl
theorem wd_2752 : Cond.laysFinal "CarHouseModel$Chart" "CarHouseModel$Chart" "readyEdge" "[I" ∈ GT := gt_12 (List.mem_of_getElem? (i := 112) rfl) rfl
theorem wd_2754 : Cond.lays "CarHouseModel$Chart" "CarHouseModel$Chart" "taken" "I" ∈ GT := gt_12 (List.mem_of_getElem? (i := 114) rfl) rfl
theorem wd_2756 : Cond.laysFinal "CarHouseModel$Chart" "CarHouseModel$Chart" "takenEdge" "[I" ∈ GT := gt_12 (List.mem_of_getElem? (i := 116) rfl) rfl
theorem wd_2758 : Cond.laysFinal "CarHouseModel$Chart" "CarHouseModel$Chart" "gone" "[Z" ∈ GT := gt_12 (List.mem_of_getElem? (i := 118) rfl) rfl
theorem wd_2760 : Cond.laysFinal "CarHouseModel$Chart" "CarHouseModel$Chart" "exits" "[Z" ∈ GT := gt_12 (List.mem_of_getElem? (i := 120) rfl) rfl
theorem wd_2762 : Cond.laysFinal "CarHouseModel$Chart" "CarHouseModel$Chart" "enters" "[Z" ∈ GT := gt_12 (List.mem_of_getElem? (i := 122) rfl) rfl
theorem wd_2764 : Cond.laysFinal "CarHouseModel$Chart" "CarHouseModel$Chart" "shallow" "[Z" ∈ GT := gt_12 (List.mem_of_getElem? (i := 124) rfl) rfl
theorem wd_2766 : Cond.laysFinal "CarHouseModel$Chart" "CarHouseModel$Chart" "deep" "[Z" ∈ GT := gt_12 (List.mem_of_getElem? (i := 126) rfl) rfl
theorem wd_2769 : Cond.methodLink "CarHouseModel" 281 ⟨"CarHouseModel$Codes", "key", "()I"⟩ ∈ GT := gt_12 (List.mem_of_getElem? (i := 129) rfl) rfl
theorem wd_2770 : Cond.instanceMethod ⟨"CarHouseModel$Codes", "key", "()I"⟩ ∈ GT := gt_12 (List.mem_of_getElem? (i := 130) rfl) rfl
theorem wd_2771 : Cond.selects "CarHouseModel$Codes" ⟨"CarHouseModel$Codes", "key", "()I"⟩ ⟨"CarHouseModel$Codes", "key", "()I"⟩ ∈ GT := gt_12 (List.mem_of_getElem? (i := 131) rfl) rfl
theorem wd_2772 : Cond.code ⟨"CarHouseModel$Codes", "key", "()I"⟩ prog_17_method_11_code 1 (some .int) ∈ GT := gt_12 (List.mem_of_getElem? (i := 132) rfl) rfl
theorem wd_2773 : Cond.methodLink "CarHouseModel" 285 ⟨"CarHouseModel$Codes", "keyByte", "(IB)V"⟩ ∈ GT := gt_12 (List.mem_of_getElem? (i := 133) rfl) rfl
theorem wd_2774 : Cond.instanceMethod ⟨"CarHouseModel$Codes", "keyByte", "(IB)V"⟩ ∈ GT := gt_12 (List.mem_of_getElem? (i := 134) rfl) rfl
theorem wd_2775 : Cond.selects "CarHouseModel$Codes" ⟨"CarHouseModel$Codes", "keyByte", "(IB)V"⟩ ⟨"CarHouseModel$Codes", "keyByte", "(IB)V"⟩ ∈ GT := gt_12 (List.mem_of_getElem? (i := 135) rfl) rfl
theorem wd_2776 : Cond.code ⟨"CarHouseModel$Codes", "keyByte", "(IB)V"⟩ prog_17_method_12_code 3 none ∈ GT := gt_12 (List.mem_of_getElem? (i := 136) rfl) rfl
theorem wd_2777 : Cond.methodLink "CarHouseModel$Codes" 82 ⟨"CarHouseModel$Codes", "noKey", "(I)Z"⟩ ∈ GT := gt_12 (List.mem_of_getElem? (i := 137) rfl) rfl
theorem wd_2779 : Cond.instanceMethod ⟨"CarHouseModel$Codes", "noKey", "(I)Z"⟩ ∈ GT := gt_12 (List.mem_of_getElem? (i := 139) rfl) rfl
theorem wd_2780 : Cond.code ⟨"CarHouseModel$Codes", "noKey", "(I)Z"⟩ prog_17_method_4_code 2 (some .boolean) ∈ GT := gt_12 (List.mem_of_getElem? (i := 140) rfl) rfl
theorem wd_2781 : Cond.fieldLink "CarHouseModel" 289 "CarHouseModel" "code" "I" ∈ GT := gt_12 (List.mem_of_getElem? (i := 141) rfl) rfl
theorem wd_2782 : Cond.fieldLink "CarHouseModel" 7 "CarHouseModel" "text" "[I" ∈ GT := gt_12 (List.mem_of_getElem? (i := 142) rfl) rfl
theorem wd_2783 : Cond.fieldLink "CarHouseModel" 296 "CarHouseModel" "length" "I" ∈ GT := gt_12 (List.mem_of_getElem? (i := 143) rfl) rfl
theorem wd_2784 : Cond.fieldLink "CarHouseModel" 627 "CarHouseModel" "cars" "I" ∈ GT := gt_12 (List.mem_of_getElem? (i := 144) rfl) rfl
theorem wd_2785 : Cond.fieldLink "CarHouseModel" 630 "CarHouseModel" "there" "Z" ∈ GT := gt_12 (List.mem_of_getElem? (i := 145) rfl) rfl
theorem wd_2786 : Cond.fieldLink "CarHouseModel" 634 "CarHouseModel" "place" "I" ∈ GT := gt_12 (List.mem_of_getElem? (i := 146) rfl) rfl
theorem wd_2787 : Cond.fieldLink "CarHouseModel" 305 "CarHouseModel" "at" "I" ∈ GT := gt_12 (List.mem_of_getElem? (i := 147) rfl) rfl
theorem wd_2788 : Cond.fieldLink "CarHouseModel" 308 "CarHouseModel" "lineEnd" "I" ∈ GT := gt_12 (List.mem_of_getElem? (i := 148) rfl) rfl
theorem wd_2789 : Cond.fieldLink "CarHouseModel" 366 "CarHouseModel" "commandAt" "I" ∈ GT := gt_12 (List.mem_of_getElem? (i := 149) rfl) rfl
theorem wd_2790 : Cond.fieldLink "CarHouseModel" 311 "CarHouseModel" "from" "I" ∈ GT := gt_12 (List.mem_of_getElem? (i := 150) rfl) rfl
theorem wd_2791 : Cond.fieldLink "CarHouseModel" 314 "CarHouseModel" "to" "I" ∈ GT := gt_12 (List.mem_of_getElem? (i := 151) rfl) rfl
theorem wd_2792 : Cond.fieldLink "CarHouseModel" 299 "CarHouseModel" "wrong" "I" ∈ GT := gt_12 (List.mem_of_getElem? (i := 152) rfl) rfl
theorem wd_2793 : Cond.fieldLink "CarHouseModel" 302 "CarHouseModel" "wrongAt" "I" ∈ GT := gt_12 (List.mem_of_getElem? (i := 153) rfl) rfl
theorem wd_2794 : Cond.fieldLink "CarHouseModel" 338 "CarHouseModel" "number" "I" ∈ GT := gt_12 (List.mem_of_getElem? (i := 154) rfl) rfl
theorem wd_2795 : Cond.fieldLink "CarHouseModel" 347 "CarHouseModel" "names" "I" ∈ GT := gt_12 (List.mem_of_getElem? (i := 155) rfl) rfl
theorem wd_2796 : Cond.fieldLink "CarHouseModel" 13 "CarHouseModel" "nameFrom" "[I" ∈ GT := gt_12 (List.mem_of_getElem? (i := 156) rfl) rfl
theorem wd_2797 : Cond.fieldLink "CarHouseModel" 16 "CarHouseModel" "nameLength" "[I" ∈ GT := gt_12 (List.mem_of_getElem? (i := 157) rfl) rfl
theorem wd_2798 : Cond.fieldLink "CarHouseModel" 19 "CarHouseModel" "nameKind" "[I" ∈ GT := gt_12 (List.mem_of_getElem? (i := 158) rfl) rfl
theorem wd_2799 : Cond.fieldLink "CarHouseModel" 22 "CarHouseModel" "nameNumber" "[I" ∈ GT := gt_12 (List.mem_of_getElem? (i := 159) rfl) rfl
theorem wd_2800 : Cond.fieldLink "CarHouseModel" 435 "CarHouseModel" "controllers" "I" ∈ GT := gt_12 (List.mem_of_getElem? (i := 160) rfl) rfl
theorem wd_2801 : Cond.fieldLink "CarHouseModel" 546 "CarHouseModel" "keys" "I" ∈ GT := gt_12 (List.mem_of_getElem? (i := 161) rfl) rfl
theorem wd_2802 : Cond.fieldLink "CarHouseModel" 25 "CarHouseModel" "keyAt" "[I" ∈ GT := gt_12 (List.mem_of_getElem? (i := 162) rfl) rfl
theorem wd_2803 : Cond.fieldLink "CarHouseModel" 28 "CarHouseModel" "keyPeriod" "[I" ∈ GT := gt_12 (List.mem_of_getElem? (i := 163) rfl) rfl
theorem wd_2804 : Cond.fieldLink "CarHouseModel" 31 "CarHouseModel" "keyNumber" "[I" ∈ GT := gt_12 (List.mem_of_getElem? (i := 164) rfl) rfl
theorem wd_2805 : Cond.fieldLink "CarHouseModel" 448 "CarHouseModel" "tasks" "I" ∈ GT := gt_12 (List.mem_of_getElem? (i := 165) rfl) rfl
theorem wd_2806 : Cond.fieldLink "CarHouseModel" 34 "CarHouseModel" "taskPlace" "[I" ∈ GT := gt_12 (List.mem_of_getElem? (i := 166) rfl) rfl
theorem wd_2807 : Cond.fieldLink "CarHouseModel" 37 "CarHouseModel" "taskOn" "[I" ∈ GT := gt_12 (List.mem_of_getElem? (i := 167) rfl) rfl
theorem wd_2808 : Cond.fieldLink "CarHouseModel" 40 "CarHouseModel" "rank" "[I" ∈ GT := gt_12 (List.mem_of_getElem? (i := 168) rfl) rfl
theorem wd_2809 : Cond.fieldLink "CarHouseModel" 43 "CarHouseModel" "period" "[I" ∈ GT := gt_12 (List.mem_of_getElem? (i := 169) rfl) rfl
theorem wd_2810 : Cond.fieldLink "CarHouseModel" 46 "CarHouseModel" "offset" "[I" ∈ GT := gt_12 (List.mem_of_getElem? (i := 170) rfl) rfl
theorem wd_2811 : Cond.fieldLink "CarHouseModel" 49 "CarHouseModel" "runs" "[I" ∈ GT := gt_12 (List.mem_of_getElem? (i := 171) rfl) rfl
theorem wd_2812 : Cond.fieldLink "CarHouseModel" 52 "CarHouseModel" "taskChart" "[I" ∈ GT := gt_12 (List.mem_of_getElem? (i := 172) rfl) rfl
theorem wd_2813 : Cond.fieldLink "CarHouseModel" 55 "CarHouseModel" "done" "[I" ∈ GT := gt_12 (List.mem_of_getElem? (i := 173) rfl) rfl
theorem wd_2814 : Cond.fieldLink "CarHouseModel" 456 "CarHouseModel" "charts" "I" ∈ GT := gt_12 (List.mem_of_getElem? (i := 174) rfl) rfl
theorem wd_2815 : Cond.fieldLink "CarHouseModel" 58 "CarHouseModel" "chartTask" "[I" ∈ GT := gt_12 (List.mem_of_getElem? (i := 175) rfl) rfl
theorem wd_2816 : Cond.fieldLink "CarHouseModel" 61 "CarHouseModel" "edges" "[I" ∈ GT := gt_12 (List.mem_of_getElem? (i := 176) rfl) rfl
theorem wd_2817 : Cond.fieldLink "CarHouseModel" 64 "CarHouseModel" "stops" "[I" ∈ GT := gt_12 (List.mem_of_getElem? (i := 177) rfl) rfl
theorem wd_2818 : Cond.fieldLink "CarHouseModel" 67 "CarHouseModel" "queued" "[I" ∈ GT := gt_12 (List.mem_of_getElem? (i := 178) rfl) rfl
theorem wd_2819 : Cond.fieldLink "CarHouseModel" 70 "CarHouseModel" "queue" "[I" ∈ GT := gt_12 (List.mem_of_getElem? (i := 179) rfl) rfl
theorem wd_2820 : Cond.fieldLink "CarHouseModel" 73 "CarHouseModel" "states" "[I" ∈ GT := gt_12 (List.mem_of_getElem? (i := 180) rfl) rfl
theorem wd_2821 : Cond.fieldLink "CarHouseModel" 76 "CarHouseModel" "stateFrom" "[I" ∈ GT := gt_12 (List.mem_of_getElem? (i := 181) rfl) rfl
theorem wd_2822 : Cond.fieldLink "CarHouseModel" 79 "CarHouseModel" "stateLength" "[I" ∈ GT := gt_12 (List.mem_of_getElem? (i := 182) rfl) rfl
theorem wd_2823 : Cond.fieldLink "CarHouseModel" 82 "CarHouseModel" "data" "[I" ∈ GT := gt_12 (List.mem_of_getElem? (i := 183) rfl) rfl
theorem wd_2824 : Cond.fieldLink "CarHouseModel" 85 "CarHouseModel" "datumFrom" "[I" ∈ GT := gt_12 (List.mem_of_getElem? (i := 184) rfl) rfl
theorem wd_2825 : Cond.fieldLink "CarHouseModel" 88 "CarHouseModel" "datumLength" "[I" ∈ GT := gt_12 (List.mem_of_getElem? (i := 185) rfl) rfl
theorem wd_2826 : Cond.fieldLink "CarHouseModel" 541 "CarHouseModel" "signals" "I" ∈ GT := gt_12 (List.mem_of_getElem? (i := 186) rfl) rfl
theorem wd_2827 : Cond.fieldLink "CarHouseModel" 91 "CarHouseModel" "signalPlace" "[I" ∈ GT := gt_12 (List.mem_of_getElem? (i := 187) rfl) rfl
theorem wd_2828 : Cond.fieldLink "CarHouseModel" 94 "CarHouseModel" "bits" "[I" ∈ GT := gt_12 (List.mem_of_getElem? (i := 188) rfl) rfl
theorem wd_2829 : Cond.fieldLink "CarHouseModel" 97 "CarHouseModel" "signalChart" "[I" ∈ GT := gt_12 (List.mem_of_getElem? (i := 189) rfl) rfl
theorem wd_2830 : Cond.fieldLink "CarHouseModel" 100 "CarHouseModel" "signalDatum" "[I" ∈ GT := gt_12 (List.mem_of_getElem? (i := 190) rfl) rfl
theorem wd_2831 : Cond.fieldLink "CarHouseModel" 103 "CarHouseModel" "signalPeriod" "[I" ∈ GT := gt_12 (List.mem_of_getElem? (i := 191) rfl) rfl
theorem wd_2832 : Cond.fieldLink "CarHouseModel" 106 "CarHouseModel" "turned" "[Z" ∈ GT := gt_12 (List.mem_of_getElem? (i := 192) rfl) rfl
theorem wd_2833 : Cond.fieldLink "CarHouseModel" 110 "CarHouseModel" "packed" "[I" ∈ GT := gt_12 (List.mem_of_getElem? (i := 193) rfl) rfl
theorem wd_2834 : Cond.fieldLink "CarHouseModel" 113 "CarHouseModel" "signalFrame" "[I" ∈ GT := gt_12 (List.mem_of_getElem? (i := 194) rfl) rfl
theorem wd_2835 : Cond.fieldLink "CarHouseModel" 116 "CarHouseModel" "signalBit" "[I" ∈ GT := gt_12 (List.mem_of_getElem? (i := 195) rfl) rfl
theorem wd_2836 : Cond.fieldLink "CarHouseModel" 555 "CarHouseModel" "reads" "I" ∈ GT := gt_12 (List.mem_of_getElem? (i := 196) rfl) rfl
theorem wd_2837 : Cond.fieldLink "CarHouseModel" 119 "CarHouseModel" "readSignal" "[I" ∈ GT := gt_12 (List.mem_of_getElem? (i := 197) rfl) rfl
theorem wd_2838 : Cond.fieldLink "CarHouseModel" 122 "CarHouseModel" "readChart" "[I" ∈ GT := gt_12 (List.mem_of_getElem? (i := 198) rfl) rfl
theorem wd_2839 : Cond.fieldLink "CarHouseModel" 125 "CarHouseModel" "readDatum" "[I" ∈ GT := gt_12 (List.mem_of_getElem? (i := 199) rfl) rfl
theorem wd_2840 : Cond.fieldLink "CarHouseModel" 128 "CarHouseModel" "readEvent" "[I" ∈ GT := gt_12 (List.mem_of_getElem? (i := 200) rfl) rfl
theorem wd_2841 : Cond.fieldLink "CarHouseModel" 131 "CarHouseModel" "readSome" "[Z" ∈ GT := gt_12 (List.mem_of_getElem? (i := 201) rfl) rfl
theorem wd_2842 : Cond.fieldLink "CarHouseModel" 134 "CarHouseModel" "readLast" "[J" ∈ GT := gt_12 (List.mem_of_getElem? (i := 202) rfl) rfl
theorem wd_2843 : Cond.fieldLink "CarHouseModel" 558 "CarHouseModel" "watches" "I" ∈ GT := gt_12 (List.mem_of_getElem? (i := 203) rfl) rfl
theorem wd_2844 : Cond.fieldLink "CarHouseModel" 138 "CarHouseModel" "watchSignal" "[I" ∈ GT := gt_12 (List.mem_of_getElem? (i := 204) rfl) rfl
theorem wd_2845 : Cond.fieldLink "CarHouseModel" 141 "CarHouseModel" "watchAt" "[I" ∈ GT := gt_12 (List.mem_of_getElem? (i := 205) rfl) rfl
theorem wd_2846 : Cond.fieldLink "CarHouseModel" 144 "CarHouseModel" "watchCode" "[I" ∈ GT := gt_12 (List.mem_of_getElem? (i := 206) rfl) rfl
theorem wd_2847 : Cond.fieldLink "CarHouseModel" 147 "CarHouseModel" "noted" "[J" ∈ GT := gt_12 (List.mem_of_getElem? (i := 207) rfl) rfl
theorem wd_2848 : Cond.fieldLink "CarHouseModel" 568 "CarHouseModel" "frames" "I" ∈ GT := gt_12 (List.mem_of_getElem? (i := 208) rfl) rfl
theorem wd_2849 : Cond.fieldLink "CarHouseModel" 150 "CarHouseModel" "frameOf" "[I" ∈ GT := gt_12 (List.mem_of_getElem? (i := 209) rfl) rfl
theorem wd_2850 : Cond.fieldLink "CarHouseModel" 153 "CarHouseModel" "framePack" "[I" ∈ GT := gt_12 (List.mem_of_getElem? (i := 210) rfl) rfl
theorem wd_2851 : Cond.fieldLink "CarHouseModel" 156 "CarHouseModel" "frameIn" "[I" ∈ GT := gt_12 (List.mem_of_getElem? (i := 211) rfl) rfl
theorem wd_2852 : Cond.fieldLink "CarHouseModel" 159 "CarHouseModel" "framePeriod" "[I" ∈ GT := gt_12 (List.mem_of_getElem? (i := 212) rfl) rfl
theorem wd_2853 : Cond.fieldLink "CarHouseModel" 162 "CarHouseModel" "frameKey" "[I" ∈ GT := gt_12 (List.mem_of_getElem? (i := 213) rfl) rfl
theorem wd_2854 : Cond.fieldLink "CarHouseModel" 165 "CarHouseModel" "position" "[I" ∈ GT := gt_12 (List.mem_of_getElem? (i := 214) rfl) rfl
theorem wd_2855 : Cond.fieldLink "CarHouseModel" 168 "CarHouseModel" "sent" "[I" ∈ GT := gt_12 (List.mem_of_getElem? (i := 215) rfl) rfl
theorem wd_2856 : Cond.fieldLink "CarHouseModel" 171 "CarHouseModel" "counter" "[J" ∈ GT := gt_12 (List.mem_of_getElem? (i := 216) rfl) rfl
theorem wd_2857 : Cond.fieldLink "CarHouseModel" 177 "CarHouseModel" "cores" "LCarHouseModel$Cores;" ∈ GT := gt_12 (List.mem_of_getElem? (i := 217) rfl) rfl
theorem wd_2858 : Cond.fieldLink "CarHouseModel" 184 "CarHouseModel" "bus" "LCarHouseModel$Bus;" ∈ GT := gt_12 (List.mem_of_getElem? (i := 218) rfl) rfl
theorem wd_2859 : Cond.fieldLink "CarHouseModel" 191 "CarHouseModel" "codes" "LCarHouseModel$Codes;" ∈ GT := gt_12 (List.mem_of_getElem? (i := 219) rfl) rfl
theorem wd_2860 : Cond.fieldLink "CarHouseModel" 198 "CarHouseModel" "transfer" "LCarHouseModel$Transfer;" ∈ GT := gt_12 (List.mem_of_getElem? (i := 220) rfl) rfl
theorem wd_2861 : Cond.fieldLink "CarHouseModel" 205 "CarHouseModel" "troubles" "LCarHouseModel$Troubles;" ∈ GT := gt_12 (List.mem_of_getElem? (i := 221) rfl) rfl
theorem wd_2862 : Cond.fieldLink "CarHouseModel" 211 "CarHouseModel" "packs" "[LCarHouseModel$Pack;" ∈ GT := gt_12 (List.mem_of_getElem? (i := 222) rfl) rfl
theorem wd_2863 : Cond.fieldLink "CarHouseModel" 217 "CarHouseModel" "chart" "[LCarHouseModel$Chart;" ∈ GT := gt_12 (List.mem_of_getElem? (i := 223) rfl) rfl
theorem wd_2864 : Cond.fieldLink "CarHouseModel" 600 "CarHouseModel" "time" "I" ∈ GT := gt_12 (List.mem_of_getElem? (i := 224) rfl) rfl
theorem wd_2865 : Cond.fieldLink "CarHouseModel" 221 "CarHouseModel" "silent" "[Z" ∈ GT := gt_12 (List.mem_of_getElem? (i := 225) rfl) rfl
theorem wd_2866 : Cond.fieldLink "CarHouseModel" 224 "CarHouseModel" "looked" "[I" ∈ GT := gt_12 (List.mem_of_getElem? (i := 226) rfl) rfl
theorem wd_2867 : Cond.fieldLink "CarHouseModel" 227 "CarHouseModel" "usedBefore" "[J" ∈ GT := gt_12 (List.mem_of_getElem? (i := 227) rfl) rfl
theorem wd_2868 : Cond.fieldLink "CarHouseModel" 230 "CarHouseModel" "octets" "[I" ∈ GT := gt_12 (List.mem_of_getElem? (i := 228) rfl) rfl
theorem wd_2869 : Cond.fieldLink "CarHouseModel" 603 "CarHouseModel" "messages" "I" ∈ GT := gt_12 (List.mem_of_getElem? (i := 229) rfl) rfl
theorem wd_2870 : Cond.fieldLink "CarHouseModel" 233 "CarHouseModel" "with" "[I" ∈ GT := gt_12 (List.mem_of_getElem? (i := 230) rfl) rfl
theorem wd_2871 : Cond.fieldLink "CarHouseModel" 236 "CarHouseModel" "fromTester" "[Z" ∈ GT := gt_12 (List.mem_of_getElem? (i := 231) rfl) rfl
theorem wd_2872 : Cond.fieldLink "CarHouseModel" 606 "CarHouseModel" "onBus" "I" ∈ GT := gt_12 (List.mem_of_getElem? (i := 232) rfl) rfl
theorem wd_2873 : Cond.fieldLink "CarHouseModel" 239 "CarHouseModel" "onBusFrame" "[I" ∈ GT := gt_12 (List.mem_of_getElem? (i := 233) rfl) rfl
theorem wd_2874 : Cond.fieldLink "CarHouseModel" 242 "CarHouseModel" "onBusIdentifier" "[I" ∈ GT := gt_12 (List.mem_of_getElem? (i := 234) rfl) rfl
theorem wd_2875 : Cond.fieldLink "CarHouseModel" 609 "CarHouseModel" "made" "I" ∈ GT := gt_12 (List.mem_of_getElem? (i := 235) rfl) rfl
theorem wd_2876 : Cond.fieldLink "CarHouseModel" 612 "CarHouseModel" "whole" "I" ∈ GT := gt_12 (List.mem_of_getElem? (i := 236) rfl) rfl
theorem wd_2877 : Cond.fieldLink "CarHouseModel" 615 "CarHouseModel" "ends" "I" ∈ GT := gt_12 (List.mem_of_getElem? (i := 237) rfl) rfl
theorem wd_2878 : Cond.fieldLink "CarHouseModel" 245 "CarHouseModel" "asked" "I" ∈ GT := gt_12 (List.mem_of_getElem? (i := 238) rfl) rfl
theorem wd_2879 : Cond.fieldLink "CarHouseModel" 618 "CarHouseModel" "answers" "I" ∈ GT := gt_12 (List.mem_of_getElem? (i := 239) rfl) rfl
theorem wd_2880 : Cond.fieldLink "CarHouseModel" 249 "CarHouseModel" "answer" "[I" ∈ GT := gt_13 (List.mem_of_getElem? (i := 0) rfl) rfl
theorem wd_2881 : Cond.fieldLink "CarHouseModel" 252 "CarHouseModel" "got" "[I" ∈ GT := gt_13 (List.mem_of_getElem? (i := 1) rfl) rfl
theorem wd_2882 : Cond.fieldLink "CarHouseModel" 255 "CarHouseModel" "said" "[I" ∈ GT := gt_13 (List.mem_of_getElem? (i := 2) rfl) rfl
theorem wd_2883 : Cond.fieldLink "CarHouseModel" 730 "CarHouseModel" "saidSize" "I" ∈ GT := gt_13 (List.mem_of_getElem? (i := 3) rfl) rfl
theorem wd_2884 : Cond.fieldLink "CarHouseModel" 258 "CarHouseModel" "session" "[I" ∈ GT := gt_13 (List.mem_of_getElem? (i := 4) rfl) rfl
theorem wd_2885 : Cond.fieldLink "CarHouseModel" 261 "CarHouseModel" "open" "[Z" ∈ GT := gt_13 (List.mem_of_getElem? (i := 5) rfl) rfl
theorem wd_2886 : Cond.fieldLink "CarHouseModel" 264 "CarHouseModel" "seeded" "[Z" ∈ GT := gt_13 (List.mem_of_getElem? (i := 6) rfl) rfl
theorem wd_2887 : Cond.fieldLink "CarHouseModel" 267 "CarHouseModel" "seed" "[I" ∈ GT := gt_13 (List.mem_of_getElem? (i := 7) rfl) rfl
theorem wd_2888 : Cond.fieldLink "CarHouseModel" 270 "CarHouseModel" "tries" "[I" ∈ GT := gt_13 (List.mem_of_getElem? (i := 8) rfl) rfl
theorem wd_2889 : Cond.fieldLink "CarHouseModel" 621 "CarHouseModel" "seeds" "I" ∈ GT := gt_13 (List.mem_of_getElem? (i := 9) rfl) rfl
theorem wd_2890 : Cond.fieldLink "CarHouseModel" 273 "CarHouseModel" "counts" "[I" ∈ GT := gt_13 (List.mem_of_getElem? (i := 10) rfl) rfl
theorem wd_2891 : Cond.fieldLink "CarHouseModel" 854 "CarHouseModel" "questions" "I" ∈ GT := gt_13 (List.mem_of_getElem? (i := 11) rfl) rfl
theorem wd_2892 : Cond.fieldLink "CarHouseModel" 276 "CarHouseModel" "question" "[I" ∈ GT := gt_13 (List.mem_of_getElem? (i := 12) rfl) rfl
theorem wd_2893 : Cond.lays "CarHouseModel" "CarHouseModel" "code" "I" ∈ GT := gt_13 (List.mem_of_getElem? (i := 13) rfl) rfl
theorem wd_2895 : Cond.laysFinal "CarHouseModel" "CarHouseModel" "text" "[I" ∈ GT := gt_13 (List.mem_of_getElem? (i := 15) rfl) rfl
theorem wd_2897 : Cond.lays "CarHouseModel" "CarHouseModel" "length" "I" ∈ GT := gt_13 (List.mem_of_getElem? (i := 17) rfl) rfl
theorem wd_2899 : Cond.lays "CarHouseModel" "CarHouseModel" "cars" "I" ∈ GT := gt_13 (List.mem_of_getElem? (i := 19) rfl) rfl
theorem wd_2901 : Cond.lays "CarHouseModel" "CarHouseModel" "there" "Z" ∈ GT := gt_13 (List.mem_of_getElem? (i := 21) rfl) rfl
theorem wd_2903 : Cond.lays "CarHouseModel" "CarHouseModel" "place" "I" ∈ GT := gt_13 (List.mem_of_getElem? (i := 23) rfl) rfl
theorem wd_2905 : Cond.lays "CarHouseModel" "CarHouseModel" "at" "I" ∈ GT := gt_13 (List.mem_of_getElem? (i := 25) rfl) rfl
theorem wd_2907 : Cond.lays "CarHouseModel" "CarHouseModel" "lineEnd" "I" ∈ GT := gt_13 (List.mem_of_getElem? (i := 27) rfl) rfl
theorem wd_2909 : Cond.lays "CarHouseModel" "CarHouseModel" "commandAt" "I" ∈ GT := gt_13 (List.mem_of_getElem? (i := 29) rfl) rfl
theorem wd_2911 : Cond.lays "CarHouseModel" "CarHouseModel" "from" "I" ∈ GT := gt_13 (List.mem_of_getElem? (i := 31) rfl) rfl
theorem wd_2913 : Cond.lays "CarHouseModel" "CarHouseModel" "to" "I" ∈ GT := gt_13 (List.mem_of_getElem? (i := 33) rfl) rfl
theorem wd_2915 : Cond.lays "CarHouseModel" "CarHouseModel" "wrong" "I" ∈ GT := gt_13 (List.mem_of_getElem? (i := 35) rfl) rfl
theorem wd_2917 : Cond.lays "CarHouseModel" "CarHouseModel" "wrongAt" "I" ∈ GT := gt_13 (List.mem_of_getElem? (i := 37) rfl) rfl
theorem wd_2919 : Cond.lays "CarHouseModel" "CarHouseModel" "number" "I" ∈ GT := gt_13 (List.mem_of_getElem? (i := 39) rfl) rfl
theorem wd_2921 : Cond.lays "CarHouseModel" "CarHouseModel" "names" "I" ∈ GT := gt_13 (List.mem_of_getElem? (i := 41) rfl) rfl
theorem wd_2923 : Cond.laysFinal "CarHouseModel" "CarHouseModel" "nameFrom" "[I" ∈ GT := gt_13 (List.mem_of_getElem? (i := 43) rfl) rfl
theorem wd_2925 : Cond.laysFinal "CarHouseModel" "CarHouseModel" "nameLength" "[I" ∈ GT := gt_13 (List.mem_of_getElem? (i := 45) rfl) rfl
theorem wd_2927 : Cond.laysFinal "CarHouseModel" "CarHouseModel" "nameKind" "[I" ∈ GT := gt_13 (List.mem_of_getElem? (i := 47) rfl) rfl
theorem wd_2929 : Cond.laysFinal "CarHouseModel" "CarHouseModel" "nameNumber" "[I" ∈ GT := gt_13 (List.mem_of_getElem? (i := 49) rfl) rfl
theorem wd_2931 : Cond.lays "CarHouseModel" "CarHouseModel" "controllers" "I" ∈ GT := gt_13 (List.mem_of_getElem? (i := 51) rfl) rfl
theorem wd_2933 : Cond.lays "CarHouseModel" "CarHouseModel" "keys" "I" ∈ GT := gt_13 (List.mem_of_getElem? (i := 53) rfl) rfl
theorem wd_2935 : Cond.laysFinal "CarHouseModel" "CarHouseModel" "keyAt" "[I" ∈ GT := gt_13 (List.mem_of_getElem? (i := 55) rfl) rfl
theorem wd_2937 : Cond.laysFinal "CarHouseModel" "CarHouseModel" "keyPeriod" "[I" ∈ GT := gt_13 (List.mem_of_getElem? (i := 57) rfl) rfl
theorem wd_2939 : Cond.laysFinal "CarHouseModel" "CarHouseModel" "keyNumber" "[I" ∈ GT := gt_13 (List.mem_of_getElem? (i := 59) rfl) rfl
theorem wd_2941 : Cond.lays "CarHouseModel" "CarHouseModel" "tasks" "I" ∈ GT := gt_13 (List.mem_of_getElem? (i := 61) rfl) rfl
theorem wd_2943 : Cond.laysFinal "CarHouseModel" "CarHouseModel" "taskPlace" "[I" ∈ GT := gt_13 (List.mem_of_getElem? (i := 63) rfl) rfl
theorem wd_2945 : Cond.laysFinal "CarHouseModel" "CarHouseModel" "taskOn" "[I" ∈ GT := gt_13 (List.mem_of_getElem? (i := 65) rfl) rfl
theorem wd_2947 : Cond.laysFinal "CarHouseModel" "CarHouseModel" "rank" "[I" ∈ GT := gt_13 (List.mem_of_getElem? (i := 67) rfl) rfl
theorem wd_2949 : Cond.laysFinal "CarHouseModel" "CarHouseModel" "period" "[I" ∈ GT := gt_13 (List.mem_of_getElem? (i := 69) rfl) rfl
theorem wd_2951 : Cond.laysFinal "CarHouseModel" "CarHouseModel" "offset" "[I" ∈ GT := gt_13 (List.mem_of_getElem? (i := 71) rfl) rfl
theorem wd_2953 : Cond.laysFinal "CarHouseModel" "CarHouseModel" "runs" "[I" ∈ GT := gt_13 (List.mem_of_getElem? (i := 73) rfl) rfl
theorem wd_2955 : Cond.laysFinal "CarHouseModel" "CarHouseModel" "taskChart" "[I" ∈ GT := gt_13 (List.mem_of_getElem? (i := 75) rfl) rfl
theorem wd_2957 : Cond.laysFinal "CarHouseModel" "CarHouseModel" "done" "[I" ∈ GT := gt_13 (List.mem_of_getElem? (i := 77) rfl) rfl
theorem wd_2959 : Cond.lays "CarHouseModel" "CarHouseModel" "charts" "I" ∈ GT := gt_13 (List.mem_of_getElem? (i := 79) rfl) rfl
theorem wd_2961 : Cond.laysFinal "CarHouseModel" "CarHouseModel" "chartTask" "[I" ∈ GT := gt_13 (List.mem_of_getElem? (i := 81) rfl) rfl
theorem wd_2963 : Cond.laysFinal "CarHouseModel" "CarHouseModel" "edges" "[I" ∈ GT := gt_13 (List.mem_of_getElem? (i := 83) rfl) rfl
theorem wd_2965 : Cond.laysFinal "CarHouseModel" "CarHouseModel" "stops" "[I" ∈ GT := gt_13 (List.mem_of_getElem? (i := 85) rfl) rfl
theorem wd_2967 : Cond.laysFinal "CarHouseModel" "CarHouseModel" "queued" "[I" ∈ GT := gt_13 (List.mem_of_getElem? (i := 87) rfl) rfl
theorem wd_2969 : Cond.laysFinal "CarHouseModel" "CarHouseModel" "queue" "[I" ∈ GT := gt_13 (List.mem_of_getElem? (i := 89) rfl) rfl
theorem wd_2971 : Cond.laysFinal "CarHouseModel" "CarHouseModel" "states" "[I" ∈ GT := gt_13 (List.mem_of_getElem? (i := 91) rfl) rfl
theorem wd_2973 : Cond.laysFinal "CarHouseModel" "CarHouseModel" "stateFrom" "[I" ∈ GT := gt_13 (List.mem_of_getElem? (i := 93) rfl) rfl
theorem wd_2975 : Cond.laysFinal "CarHouseModel" "CarHouseModel" "stateLength" "[I" ∈ GT := gt_13 (List.mem_of_getElem? (i := 95) rfl) rfl
theorem wd_2977 : Cond.laysFinal "CarHouseModel" "CarHouseModel" "data" "[I" ∈ GT := gt_13 (List.mem_of_getElem? (i := 97) rfl) rfl
theorem wd_2979 : Cond.laysFinal "CarHouseModel" "CarHouseModel" "datumFrom" "[I" ∈ GT := gt_13 (List.mem_of_getElem? (i := 99) rfl) rfl
theorem wd_2981 : Cond.laysFinal "CarHouseModel" "CarHouseModel" "datumLength" "[I" ∈ GT := gt_13 (List.mem_of_getElem? (i := 101) rfl) rfl
theorem wd_2983 : Cond.lays "CarHouseModel" "CarHouseModel" "signals" "I" ∈ GT := gt_13 (List.mem_of_getElem? (i := 103) rfl) rfl
theorem wd_2985 : Cond.laysFinal "CarHouseModel" "CarHouseModel" "signalPlace" "[I" ∈ GT := gt_13 (List.mem_of_getElem? (i := 105) rfl) rfl
theorem wd_2987 : Cond.laysFinal "CarHouseModel" "CarHouseModel" "bits" "[I" ∈ GT := gt_13 (List.mem_of_getElem? (i := 107) rfl) rfl
theorem wd_2989 : Cond.laysFinal "CarHouseModel" "CarHouseModel" "signalChart" "[I" ∈ GT := gt_13 (List.mem_of_getElem? (i := 109) rfl) rfl
theorem wd_2991 : Cond.laysFinal "CarHouseModel" "CarHouseModel" "signalDatum" "[I" ∈ GT := gt_13 (List.mem_of_getElem? (i := 111) rfl) rfl
theorem wd_2993 : Cond.laysFinal "CarHouseModel" "CarHouseModel" "signalPeriod" "[I" ∈ GT := gt_13 (List.mem_of_getElem? (i := 113) rfl) rfl
theorem wd_2995 : Cond.laysFinal "CarHouseModel" "CarHouseModel" "turned" "[Z" ∈ GT := gt_13 (List.mem_of_getElem? (i := 115) rfl) rfl
theorem wd_2997 : Cond.laysFinal "CarHouseModel" "CarHouseModel" "packed" "[I" ∈ GT := gt_13 (List.mem_of_getElem? (i := 117) rfl) rfl
theorem wd_2999 : Cond.laysFinal "CarHouseModel" "CarHouseModel" "signalFrame" "[I" ∈ GT := gt_13 (List.mem_of_getElem? (i := 119) rfl) rfl
theorem wd_3001 : Cond.laysFinal "CarHouseModel" "CarHouseModel" "signalBit" "[I" ∈ GT := gt_13 (List.mem_of_getElem? (i := 121) rfl) rfl
theorem wd_3003 : Cond.lays "CarHouseModel" "CarHouseModel" "reads" "I" ∈ GT := gt_13 (List.mem_of_getElem? (i := 123) rfl) rfl
theorem wd_3005 : Cond.laysFinal "CarHouseModel" "CarHouseModel" "readSignal" "[I" ∈ GT := gt_13 (List.mem_of_getElem? (i := 125) rfl) rfl
theorem wd_3007 : Cond.laysFinal "CarHouseModel" "CarHouseModel" "readChart" "[I" ∈ GT := gt_13 (List.mem_of_getElem? (i := 127) rfl) rfl
theorem wd_3009 : Cond.laysFinal "CarHouseModel" "CarHouseModel" "readDatum" "[I" ∈ GT := gt_13 (List.mem_of_getElem? (i := 129) rfl) rfl
theorem wd_3011 : Cond.laysFinal "CarHouseModel" "CarHouseModel" "readEvent" "[I" ∈ GT := gt_13 (List.mem_of_getElem? (i := 131) rfl) rfl
theorem wd_3013 : Cond.laysFinal "CarHouseModel" "CarHouseModel" "readSome" "[Z" ∈ GT := gt_13 (List.mem_of_getElem? (i := 133) rfl) rfl
theorem wd_3015 : Cond.laysFinal "CarHouseModel" "CarHouseModel" "readLast" "[J" ∈ GT := gt_13 (List.mem_of_getElem? (i := 135) rfl) rfl
theorem wd_3017 : Cond.lays "CarHouseModel" "CarHouseModel" "watches" "I" ∈ GT := gt_13 (List.mem_of_getElem? (i := 137) rfl) rfl
theorem wd_3019 : Cond.laysFinal "CarHouseModel" "CarHouseModel" "watchSignal" "[I" ∈ GT := gt_13 (List.mem_of_getElem? (i := 139) rfl) rfl
theorem wd_3021 : Cond.laysFinal "CarHouseModel" "CarHouseModel" "watchAt" "[I" ∈ GT := gt_13 (List.mem_of_getElem? (i := 141) rfl) rfl
theorem wd_3023 : Cond.laysFinal "CarHouseModel" "CarHouseModel" "watchCode" "[I" ∈ GT := gt_13 (List.mem_of_getElem? (i := 143) rfl) rfl
theorem wd_3025 : Cond.laysFinal "CarHouseModel" "CarHouseModel" "noted" "[J" ∈ GT := gt_13 (List.mem_of_getElem? (i := 145) rfl) rfl
theorem wd_3027 : Cond.lays "CarHouseModel" "CarHouseModel" "frames" "I" ∈ GT := gt_13 (List.mem_of_getElem? (i := 147) rfl) rfl
theorem wd_3029 : Cond.laysFinal "CarHouseModel" "CarHouseModel" "frameOf" "[I" ∈ GT := gt_13 (List.mem_of_getElem? (i := 149) rfl) rfl
theorem wd_3031 : Cond.laysFinal "CarHouseModel" "CarHouseModel" "framePack" "[I" ∈ GT := gt_13 (List.mem_of_getElem? (i := 151) rfl) rfl
theorem wd_3033 : Cond.laysFinal "CarHouseModel" "CarHouseModel" "frameIn" "[I" ∈ GT := gt_13 (List.mem_of_getElem? (i := 153) rfl) rfl
theorem wd_3035 : Cond.laysFinal "CarHouseModel" "CarHouseModel" "framePeriod" "[I" ∈ GT := gt_13 (List.mem_of_getElem? (i := 155) rfl) rfl
theorem wd_3037 : Cond.laysFinal "CarHouseModel" "CarHouseModel" "frameKey" "[I" ∈ GT := gt_13 (List.mem_of_getElem? (i := 157) rfl) rfl
theorem wd_3039 : Cond.laysFinal "CarHouseModel" "CarHouseModel" "position" "[I" ∈ GT := gt_13 (List.mem_of_getElem? (i := 159) rfl) rfl
theorem wd_3041 : Cond.laysFinal "CarHouseModel" "CarHouseModel" "sent" "[I" ∈ GT := gt_13 (List.mem_of_getElem? (i := 161) rfl) rfl
theorem wd_3043 : Cond.laysFinal "CarHouseModel" "CarHouseModel" "counter" "[J" ∈ GT := gt_13 (List.mem_of_getElem? (i := 163) rfl) rfl
theorem wd_3045 : Cond.laysFinal "CarHouseModel" "CarHouseModel" "cores" "LCarHouseModel$Cores;" ∈ GT := gt_13 (List.mem_of_getElem? (i := 165) rfl) rfl
theorem wd_3047 : Cond.laysFinal "CarHouseModel" "CarHouseModel" "bus" "LCarHouseModel$Bus;" ∈ GT := gt_13 (List.mem_of_getElem? (i := 167) rfl) rfl
theorem wd_3049 : Cond.laysFinal "CarHouseModel" "CarHouseModel" "codes" "LCarHouseModel$Codes;" ∈ GT := gt_13 (List.mem_of_getElem? (i := 169) rfl) rfl
theorem wd_3051 : Cond.laysFinal "CarHouseModel" "CarHouseModel" "transfer" "LCarHouseModel$Transfer;" ∈ GT := gt_13 (List.mem_of_getElem? (i := 171) rfl) rfl
theorem wd_3053 : Cond.laysFinal "CarHouseModel" "CarHouseModel" "troubles" "LCarHouseModel$Troubles;" ∈ GT := gt_13 (List.mem_of_getElem? (i := 173) rfl) rfl
theorem wd_3055 : Cond.laysFinal "CarHouseModel" "CarHouseModel" "packs" "[LCarHouseModel$Pack;" ∈ GT := gt_13 (List.mem_of_getElem? (i := 175) rfl) rfl
theorem wd_3057 : Cond.laysFinal "CarHouseModel" "CarHouseModel" "chart" "[LCarHouseModel$Chart;" ∈ GT := gt_13 (List.mem_of_getElem? (i := 177) rfl) rfl
theorem wd_3059 : Cond.lays "CarHouseModel" "CarHouseModel" "time" "I" ∈ GT := gt_13 (List.mem_of_getElem? (i := 179) rfl) rfl
theorem wd_3061 : Cond.laysFinal "CarHouseModel" "CarHouseModel" "silent" "[Z" ∈ GT := gt_13 (List.mem_of_getElem? (i := 181) rfl) rfl
theorem wd_3063 : Cond.laysFinal "CarHouseModel" "CarHouseModel" "looked" "[I" ∈ GT := gt_13 (List.mem_of_getElem? (i := 183) rfl) rfl
theorem wd_3065 : Cond.laysFinal "CarHouseModel" "CarHouseModel" "usedBefore" "[J" ∈ GT := gt_13 (List.mem_of_getElem? (i := 185) rfl) rfl
theorem wd_3067 : Cond.laysFinal "CarHouseModel" "CarHouseModel" "octets" "[I" ∈ GT := gt_13 (List.mem_of_getElem? (i := 187) rfl) rfl
theorem wd_3069 : Cond.lays "CarHouseModel" "CarHouseModel" "messages" "I" ∈ GT := gt_13 (List.mem_of_getElem? (i := 189) rfl) rfl
theorem wd_3071 : Cond.laysFinal "CarHouseModel" "CarHouseModel" "with" "[I" ∈ GT := gt_13 (List.mem_of_getElem? (i := 191) rfl) rfl
theorem wd_3073 : Cond.laysFinal "CarHouseModel" "CarHouseModel" "fromTester" "[Z" ∈ GT := gt_13 (List.mem_of_getElem? (i := 193) rfl) rfl
theorem wd_3075 : Cond.lays "CarHouseModel" "CarHouseModel" "onBus" "I" ∈ GT := gt_13 (List.mem_of_getElem? (i := 195) rfl) rfl
theorem wd_3077 : Cond.laysFinal "CarHouseModel" "CarHouseModel" "onBusFrame" "[I" ∈ GT := gt_13 (List.mem_of_getElem? (i := 197) rfl) rfl
theorem wd_3079 : Cond.laysFinal "CarHouseModel" "CarHouseModel" "onBusIdentifier" "[I" ∈ GT := gt_13 (List.mem_of_getElem? (i := 199) rfl) rfl
theorem wd_3081 : Cond.lays "CarHouseModel" "CarHouseModel" "made" "I" ∈ GT := gt_13 (List.mem_of_getElem? (i := 201) rfl) rfl
theorem wd_3083 : Cond.lays "CarHouseModel" "CarHouseModel" "whole" "I" ∈ GT := gt_13 (List.mem_of_getElem? (i := 203) rfl) rfl
theorem wd_3085 : Cond.lays "CarHouseModel" "CarHouseModel" "ends" "I" ∈ GT := gt_13 (List.mem_of_getElem? (i := 205) rfl) rfl
theorem wd_3087 : Cond.lays "CarHouseModel" "CarHouseModel" "asked" "I" ∈ GT := gt_13 (List.mem_of_getElem? (i := 207) rfl) rfl
theorem wd_3089 : Cond.lays "CarHouseModel" "CarHouseModel" "answers" "I" ∈ GT := gt_13 (List.mem_of_getElem? (i := 209) rfl) rfl
theorem wd_3091 : Cond.laysFinal "CarHouseModel" "CarHouseModel" "answer" "[I" ∈ GT := gt_13 (List.mem_of_getElem? (i := 211) rfl) rfl
theorem wd_3093 : Cond.laysFinal "CarHouseModel" "CarHouseModel" "got" "[I" ∈ GT := gt_13 (List.mem_of_getElem? (i := 213) rfl) rfl
theorem wd_3095 : Cond.laysFinal "CarHouseModel" "CarHouseModel" "said" "[I" ∈ GT := gt_13 (List.mem_of_getElem? (i := 215) rfl) rfl
theorem wd_3097 : Cond.lays "CarHouseModel" "CarHouseModel" "saidSize" "I" ∈ GT := gt_13 (List.mem_of_getElem? (i := 217) rfl) rfl
theorem wd_3099 : Cond.laysFinal "CarHouseModel" "CarHouseModel" "session" "[I" ∈ GT := gt_13 (List.mem_of_getElem? (i := 219) rfl) rfl
theorem wd_3101 : Cond.laysFinal "CarHouseModel" "CarHouseModel" "open" "[Z" ∈ GT := gt_13 (List.mem_of_getElem? (i := 221) rfl) rfl
theorem wd_3103 : Cond.laysFinal "CarHouseModel" "CarHouseModel" "seeded" "[Z" ∈ GT := gt_13 (List.mem_of_getElem? (i := 223) rfl) rfl
theorem wd_3105 : Cond.laysFinal "CarHouseModel" "CarHouseModel" "seed" "[I" ∈ GT := gt_13 (List.mem_of_getElem? (i := 225) rfl) rfl
theorem wd_3107 : Cond.laysFinal "CarHouseModel" "CarHouseModel" "tries" "[I" ∈ GT := gt_13 (List.mem_of_getElem? (i := 227) rfl) rfl
theorem wd_3109 : Cond.lays "CarHouseModel" "CarHouseModel" "seeds" "I" ∈ GT := gt_13 (List.mem_of_getElem? (i := 229) rfl) rfl
theorem wd_3111 : Cond.laysFinal "CarHouseModel" "CarHouseModel" "counts" "[I" ∈ GT := gt_13 (List.mem_of_getElem? (i := 231) rfl) rfl
theorem wd_3113 : Cond.lays "CarHouseModel" "CarHouseModel" "questions" "I" ∈ GT := gt_13 (List.mem_of_getElem? (i := 233) rfl) rfl
theorem wd_3115 : Cond.laysFinal "CarHouseModel" "CarHouseModel" "question" "[I" ∈ GT := gt_13 (List.mem_of_getElem? (i := 235) rfl) rfl
theorem wd_3118 : Cond.methodLink "CarHouseLaw" 99 ⟨"CarHouseModel", "thrown", "()I"⟩ ∈ GT := gt_13 (List.mem_of_getElem? (i := 238) rfl) rfl
theorem wd_3119 : Cond.instanceMethod ⟨"CarHouseModel", "thrown", "()I"⟩ ∈ GT := gt_13 (List.mem_of_getElem? (i := 239) rfl) rfl
theorem wd_3120 : Cond.selects "CarHouseModel" ⟨"CarHouseModel", "thrown", "()I"⟩ ⟨"CarHouseModel", "thrown", "()I"⟩ ∈ GT := gt_14 (List.mem_of_getElem? (i := 0) rfl) rfl
theorem wd_3121 : Cond.code ⟨"CarHouseModel", "thrown", "()I"⟩ prog_14_method_2_code 1 (some .int) ∈ GT := gt_14 (List.mem_of_getElem? (i := 1) rfl) rfl
theorem wd_3122 : Cond.methodLink "CarHouseLaw" 98 ⟨"CarHouseModel", "text", "(IIII)V"⟩ ∈ GT := gt_14 (List.mem_of_getElem? (i := 2) rfl) rfl
theorem wd_3123 : Cond.instanceMethod ⟨"CarHouseModel", "text", "(IIII)V"⟩ ∈ GT := gt_14 (List.mem_of_getElem? (i := 3) rfl) rfl
theorem wd_3124 : Cond.selects "CarHouseModel" ⟨"CarHouseModel", "text", "(IIII)V"⟩ ⟨"CarHouseModel", "text", "(IIII)V"⟩ ∈ GT := gt_14 (List.mem_of_getElem? (i := 4) rfl) rfl
theorem wd_3125 : Cond.code ⟨"CarHouseModel", "text", "(IIII)V"⟩ prog_14_method_4_code 8 none ∈ GT := gt_14 (List.mem_of_getElem? (i := 5) rfl) rfl
theorem wd_3126 : Cond.methodLink "CarHouseModel" 292 ⟨"CarHouseModel", "character", "(IIIII)I"⟩ ∈ GT := gt_14 (List.mem_of_getElem? (i := 6) rfl) rfl
theorem wd_3127 : Cond.static ⟨"CarHouseModel", "character", "(IIIII)I"⟩ ∈ GT := gt_14 (List.mem_of_getElem? (i := 7) rfl) rfl
theorem wd_3128 : Cond.code ⟨"CarHouseModel", "character", "(IIIII)I"⟩ prog_14_method_3_code 6 (some .int) ∈ GT := gt_14 (List.mem_of_getElem? (i := 8) rfl) rfl
theorem wd_3129 : Cond.methodLink "CarHouseLaw" 105 ⟨"CarHouseModel", "cut", "(I)I"⟩ ∈ GT := gt_14 (List.mem_of_getElem? (i := 9) rfl) rfl
theorem wd_3130 : Cond.instanceMethod ⟨"CarHouseModel", "cut", "(I)I"⟩ ∈ GT := gt_14 (List.mem_of_getElem? (i := 10) rfl) rfl
theorem wd_3131 : Cond.selects "CarHouseModel" ⟨"CarHouseModel", "cut", "(I)I"⟩ ⟨"CarHouseModel", "cut", "(I)I"⟩ ∈ GT := gt_14 (List.mem_of_getElem? (i := 11) rfl) rfl
theorem wd_3132 : Cond.code ⟨"CarHouseModel", "cut", "(I)I"⟩ prog_14_method_5_code 2 (some .int) ∈ GT := gt_14 (List.mem_of_getElem? (i := 12) rfl) rfl
theorem wd_3133 : Cond.methodLink "CarHouseLaw" 109 ⟨"CarHouseModel", "system", "()I"⟩ ∈ GT := gt_14 (List.mem_of_getElem? (i := 13) rfl) rfl
theorem wd_3134 : Cond.instanceMethod ⟨"CarHouseModel", "system", "()I"⟩ ∈ GT := gt_14 (List.mem_of_getElem? (i := 14) rfl) rfl
theorem wd_3135 : Cond.selects "CarHouseModel" ⟨"CarHouseModel", "system", "()I"⟩ ⟨"CarHouseModel", "system", "()I"⟩ ∈ GT := gt_14 (List.mem_of_getElem? (i := 15) rfl) rfl
theorem wd_3136 : Cond.code ⟨"CarHouseModel", "system", "()I"⟩ prog_14_method_50_code 1 (some .int) ∈ GT := gt_14 (List.mem_of_getElem? (i := 16) rfl) rfl
theorem wd_3137 : Cond.methodLink "CarHouseModel" 636 ⟨"CarHouseModel$Troubles", "anew", "(I)V"⟩ ∈ GT := gt_14 (List.mem_of_getElem? (i := 17) rfl) rfl
theorem wd_3138 : Cond.instanceMethod ⟨"CarHouseModel$Troubles", "anew", "(I)V"⟩ ∈ GT := gt_14 (List.mem_of_getElem? (i := 18) rfl) rfl
theorem wd_3139 : Cond.selects "CarHouseModel$Troubles" ⟨"CarHouseModel$Troubles", "anew", "(I)V"⟩ ⟨"CarHouseModel$Troubles", "anew", "(I)V"⟩ ∈ GT := gt_14 (List.mem_of_getElem? (i := 19) rfl) rfl
theorem wd_3140 : Cond.code ⟨"CarHouseModel$Troubles", "anew", "(I)V"⟩ prog_21_method_2_code 3 none ∈ GT := gt_14 (List.mem_of_getElem? (i := 20) rfl) rfl
theorem wd_3141 : Cond.methodLink "CarHouseModel" 637 ⟨"CarHouseModel", "read", "()Z"⟩ ∈ GT := gt_14 (List.mem_of_getElem? (i := 21) rfl) rfl
theorem wd_3143 : Cond.instanceMethod ⟨"CarHouseModel", "read", "()Z"⟩ ∈ GT := gt_14 (List.mem_of_getElem? (i := 23) rfl) rfl
theorem wd_3144 : Cond.code ⟨"CarHouseModel", "read", "()Z"⟩ prog_14_method_49_code 2 (some .boolean) ∈ GT := gt_14 (List.mem_of_getElem? (i := 24) rfl) rfl
theorem wd_3145 : Cond.methodLink "CarHouseModel" 317 ⟨"CarHouseModel", "next", "()Z"⟩ ∈ GT := gt_14 (List.mem_of_getElem? (i := 25) rfl) rfl
theorem wd_3147 : Cond.instanceMethod ⟨"CarHouseModel", "next", "()Z"⟩ ∈ GT := gt_14 (List.mem_of_getElem? (i := 27) rfl) rfl
theorem wd_3148 : Cond.code ⟨"CarHouseModel", "next", "()Z"⟩ prog_14_method_7_code 1 (some .boolean) ∈ GT := gt_14 (List.mem_of_getElem? (i := 28) rfl) rfl
theorem wd_3149 : Cond.methodLink "CarHouseModel" 624 ⟨"CarHouseModel", "line", "()Z"⟩ ∈ GT := gt_14 (List.mem_of_getElem? (i := 29) rfl) rfl
theorem wd_3151 : Cond.instanceMethod ⟨"CarHouseModel", "line", "()Z"⟩ ∈ GT := gt_14 (List.mem_of_getElem? (i := 31) rfl) rfl
theorem wd_3152 : Cond.code ⟨"CarHouseModel", "line", "()Z"⟩ prog_14_method_27_code 1 (some .boolean) ∈ GT := gt_14 (List.mem_of_getElem? (i := 32) rfl) rfl
theorem wd_3153 : Cond.constantLong "CarHouseModel" 369 7812741990951317347 ∈ GT := gt_14 (List.mem_of_getElem? (i := 33) rfl) rfl
theorem wd_3154 : Cond.constantLong "CarHouseModel" 371 29285 ∈ GT := gt_14 (List.mem_of_getElem? (i := 34) rfl) rfl
theorem wd_3155 : Cond.methodLink "CarHouseModel" 327 ⟨"CarHouseModel", "is", "(JJ)Z"⟩ ∈ GT := gt_14 (List.mem_of_getElem? (i := 35) rfl) rfl
theorem wd_3157 : Cond.instanceMethod ⟨"CarHouseModel", "is", "(JJ)Z"⟩ ∈ GT := gt_14 (List.mem_of_getElem? (i := 37) rfl) rfl
theorem wd_3158 : Cond.code ⟨"CarHouseModel", "is", "(JJ)Z"⟩ prog_14_method_10_code 10 (some .boolean) ∈ GT := gt_14 (List.mem_of_getElem? (i := 38) rfl) rfl
theorem wd_3159 : Cond.constantLong "CarHouseModel" 325 256 ∈ GT := gt_14 (List.mem_of_getElem? (i := 39) rfl) rfl
theorem wd_3160 : Cond.methodLink "CarHouseModel" 373 ⟨"CarHouseModel", "addController", "()Z"⟩ ∈ GT := gt_14 (List.mem_of_getElem? (i := 40) rfl) rfl
theorem wd_3162 : Cond.instanceMethod ⟨"CarHouseModel", "addController", "()Z"⟩ ∈ GT := gt_14 (List.mem_of_getElem? (i := 42) rfl) rfl
theorem wd_3163 : Cond.code ⟨"CarHouseModel", "addController", "()Z"⟩ prog_14_method_28_code 3 (some .boolean) ∈ GT := gt_14 (List.mem_of_getElem? (i := 43) rfl) rfl
theorem wd_3164 : Cond.methodLink "CarHouseModel" 438 ⟨"CarHouseModel", "newName", "(II)Z"⟩ ∈ GT := gt_14 (List.mem_of_getElem? (i := 44) rfl) rfl
theorem wd_3166 : Cond.instanceMethod ⟨"CarHouseModel", "newName", "(II)Z"⟩ ∈ GT := gt_14 (List.mem_of_getElem? (i := 46) rfl) rfl
theorem wd_3167 : Cond.code ⟨"CarHouseModel", "newName", "(II)Z"⟩ prog_14_method_19_code 3 (some .boolean) ∈ GT := gt_14 (List.mem_of_getElem? (i := 47) rfl) rfl
theorem wd_3168 : Cond.methodLink "CarHouseModel" 341 ⟨"CarHouseModel", "must", "()Z"⟩ ∈ GT := gt_14 (List.mem_of_getElem? (i := 48) rfl) rfl
theorem wd_3170 : Cond.instanceMethod ⟨"CarHouseModel", "must", "()Z"⟩ ∈ GT := gt_14 (List.mem_of_getElem? (i := 50) rfl) rfl
theorem wd_3171 : Cond.code ⟨"CarHouseModel", "must", "()Z"⟩ prog_14_method_8_code 1 (some .boolean) ∈ GT := gt_14 (List.mem_of_getElem? (i := 51) rfl) rfl
theorem wd_3172 : Cond.methodLink "CarHouseModel" 321 ⟨"CarHouseModel", "fail", "(II)Z"⟩ ∈ GT := gt_14 (List.mem_of_getElem? (i := 52) rfl) rfl
theorem wd_3174 : Cond.instanceMethod ⟨"CarHouseModel", "fail", "(II)Z"⟩ ∈ GT := gt_14 (List.mem_of_getElem? (i := 54) rfl) rfl
theorem wd_3175 : Cond.code ⟨"CarHouseModel", "fail", "(II)Z"⟩ prog_14_method_6_code 3 (some .boolean) ∈ GT := gt_14 (List.mem_of_getElem? (i := 55) rfl) rfl
theorem wd_3176 : Cond.methodLink "CarHouseModel" 353 ⟨"CarHouseModel", "isName", "()Z"⟩ ∈ GT := gt_14 (List.mem_of_getElem? (i := 56) rfl) rfl
theorem wd_3178 : Cond.instanceMethod ⟨"CarHouseModel", "isName", "()Z"⟩ ∈ GT := gt_14 (List.mem_of_getElem? (i := 58) rfl) rfl
theorem wd_3179 : Cond.code ⟨"CarHouseModel", "isName", "()Z"⟩ prog_14_method_14_code 3 (some .boolean) ∈ GT := gt_14 (List.mem_of_getElem? (i := 59) rfl) rfl
theorem wd_3180 : Cond.methodLink "CarHouseModel" 331 ⟨"CarHouseModel", "letter", "(I)Z"⟩ ∈ GT := gt_14 (List.mem_of_getElem? (i := 60) rfl) rfl
theorem wd_3181 : Cond.static ⟨"CarHouseModel", "letter", "(I)Z"⟩ ∈ GT := gt_14 (List.mem_of_getElem? (i := 61) rfl) rfl
theorem wd_3182 : Cond.code ⟨"CarHouseModel", "letter", "(I)Z"⟩ prog_14_method_12_code 1 (some .boolean) ∈ GT := gt_14 (List.mem_of_getElem? (i := 62) rfl) rfl
theorem wd_3183 : Cond.methodLink "CarHouseModel" 335 ⟨"CarHouseModel", "digit", "(I)Z"⟩ ∈ GT := gt_14 (List.mem_of_getElem? (i := 63) rfl) rfl
theorem wd_3184 : Cond.static ⟨"CarHouseModel", "digit", "(I)Z"⟩ ∈ GT := gt_14 (List.mem_of_getElem? (i := 64) rfl) rfl
theorem wd_3185 : Cond.code ⟨"CarHouseModel", "digit", "(I)Z"⟩ prog_14_method_13_code 1 (some .boolean) ∈ GT := gt_14 (List.mem_of_getElem? (i := 65) rfl) rfl
theorem wd_3186 : Cond.methodLink "CarHouseModel" 356 ⟨"CarHouseModel", "findName", "()I"⟩ ∈ GT := gt_14 (List.mem_of_getElem? (i := 66) rfl) rfl
theorem wd_3188 : Cond.instanceMethod ⟨"CarHouseModel", "findName", "()I"⟩ ∈ GT := gt_14 (List.mem_of_getElem? (i := 68) rfl) rfl
theorem wd_3189 : Cond.code ⟨"CarHouseModel", "findName", "()I"⟩ prog_14_method_18_code 2 (some .int) ∈ GT := gt_14 (List.mem_of_getElem? (i := 69) rfl) rfl
theorem wd_3190 : Cond.methodLink "CarHouseModel" 350 ⟨"CarHouseModel", "same", "(II)Z"⟩ ∈ GT := gt_14 (List.mem_of_getElem? (i := 70) rfl) rfl
theorem wd_3192 : Cond.instanceMethod ⟨"CarHouseModel", "same", "(II)Z"⟩ ∈ GT := gt_14 (List.mem_of_getElem? (i := 72) rfl) rfl
theorem wd_3193 : Cond.code ⟨"CarHouseModel", "same", "(II)Z"⟩ prog_14_method_17_code 5 (some .boolean) ∈ GT := gt_14 (List.mem_of_getElem? (i := 73) rfl) rfl
theorem wd_3194 : Cond.methodLink "CarHouseModel" 441 ⟨"CarHouseModel", "end", "()Z"⟩ ∈ GT := gt_14 (List.mem_of_getElem? (i := 74) rfl) rfl
theorem wd_3196 : Cond.instanceMethod ⟨"CarHouseModel", "end", "()Z"⟩ ∈ GT := gt_14 (List.mem_of_getElem? (i := 76) rfl) rfl
theorem wd_3197 : Cond.code ⟨"CarHouseModel", "end", "()Z"⟩ prog_14_method_9_code 1 (some .boolean) ∈ GT := gt_14 (List.mem_of_getElem? (i := 77) rfl) rfl
theorem wd_3198 : Cond.methodLink "CarHouseModel" 444 ⟨"CarHouseModel", "addName", "(IIII)V"⟩ ∈ GT := gt_14 (List.mem_of_getElem? (i := 78) rfl) rfl
theorem wd_3200 : Cond.instanceMethod ⟨"CarHouseModel", "addName", "(IIII)V"⟩ ∈ GT := gt_14 (List.mem_of_getElem? (i := 80) rfl) rfl
theorem wd_3201 : Cond.code ⟨"CarHouseModel", "addName", "(IIII)V"⟩ prog_14_method_20_code 5 none ∈ GT := gt_14 (List.mem_of_getElem? (i := 81) rfl) rfl
theorem wd_3202 : Cond.constantLong "CarHouseModel" 376 1802723700 ∈ GT := gt_14 (List.mem_of_getElem? (i := 82) rfl) rfl
theorem wd_3203 : Cond.methodLink "CarHouseModel" 378 ⟨"CarHouseModel", "addTask", "()Z"⟩ ∈ GT := gt_14 (List.mem_of_getElem? (i := 83) rfl) rfl
theorem wd_3205 : Cond.instanceMethod ⟨"CarHouseModel", "addTask", "()Z"⟩ ∈ GT := gt_14 (List.mem_of_getElem? (i := 85) rfl) rfl
theorem wd_3206 : Cond.code ⟨"CarHouseModel", "addTask", "()Z"⟩ prog_14_method_29_code 4 (some .boolean) ∈ GT := gt_14 (List.mem_of_getElem? (i := 86) rfl) rfl
theorem wd_3207 : Cond.methodLink "CarHouseModel" 451 ⟨"CarHouseModel", "named", "(I)I"⟩ ∈ GT := gt_14 (List.mem_of_getElem? (i := 87) rfl) rfl
theorem wd_3209 : Cond.instanceMethod ⟨"CarHouseModel", "named", "(I)I"⟩ ∈ GT := gt_14 (List.mem_of_getElem? (i := 89) rfl) rfl
theorem wd_3210 : Cond.code ⟨"CarHouseModel", "named", "(I)I"⟩ prog_14_method_21_code 4 (some .int) ∈ GT := gt_14 (List.mem_of_getElem? (i := 90) rfl) rfl
theorem wd_3211 : Cond.methodLink "CarHouseModel" 454 ⟨"CarHouseModel", "number", "(II)Z"⟩ ∈ GT := gt_14 (List.mem_of_getElem? (i := 91) rfl) rfl
theorem wd_3213 : Cond.instanceMethod ⟨"CarHouseModel", "number", "(II)Z"⟩ ∈ GT := gt_14 (List.mem_of_getElem? (i := 93) rfl) rfl
theorem wd_3214 : Cond.code ⟨"CarHouseModel", "number", "(II)Z"⟩ prog_14_method_16_code 3 (some .boolean) ∈ GT := gt_14 (List.mem_of_getElem? (i := 94) rfl) rfl
theorem wd_3215 : Cond.methodLink "CarHouseModel" 344 ⟨"CarHouseModel", "isNumber", "()Z"⟩ ∈ GT := gt_14 (List.mem_of_getElem? (i := 95) rfl) rfl
theorem wd_3217 : Cond.instanceMethod ⟨"CarHouseModel", "isNumber", "()Z"⟩ ∈ GT := gt_14 (List.mem_of_getElem? (i := 97) rfl) rfl
theorem wd_3218 : Cond.code ⟨"CarHouseModel", "isNumber", "()Z"⟩ prog_14_method_15_code 4 (some .boolean) ∈ GT := gt_14 (List.mem_of_getElem? (i := 98) rfl) rfl
theorem wd_3219 : Cond.constantLong "CarHouseModel" 381 500135192675 ∈ GT := gt_14 (List.mem_of_getElem? (i := 99) rfl) rfl
theorem wd_3220 : Cond.methodLink "CarHouseModel" 383 ⟨"CarHouseModel", "addChart", "()Z"⟩ ∈ GT := gt_14 (List.mem_of_getElem? (i := 100) rfl) rfl
theorem wd_3222 : Cond.instanceMethod ⟨"CarHouseModel", "addChart", "()Z"⟩ ∈ GT := gt_14 (List.mem_of_getElem? (i := 102) rfl) rfl
theorem wd_3223 : Cond.code ⟨"CarHouseModel", "addChart", "()Z"⟩ prog_14_method_30_code 6 (some .boolean) ∈ GT := gt_14 (List.mem_of_getElem? (i := 103) rfl) rfl
theorem wd_3224 : Cond.methodLink "CarHouseModel" 459 ⟨"CarHouseModel$Chart", "anew", "(I)V"⟩ ∈ GT := gt_14 (List.mem_of_getElem? (i := 104) rfl) rfl
theorem wd_3225 : Cond.instanceMethod ⟨"CarHouseModel$Chart", "anew", "(I)V"⟩ ∈ GT := gt_14 (List.mem_of_getElem? (i := 105) rfl) rfl
theorem wd_3226 : Cond.selects "CarHouseModel$Chart" ⟨"CarHouseModel$Chart", "anew", "(I)V"⟩ ⟨"CarHouseModel$Chart", "anew", "(I)V"⟩ ∈ GT := gt_14 (List.mem_of_getElem? (i := 106) rfl) rfl
theorem wd_3227 : Cond.code ⟨"CarHouseModel$Chart", "anew", "(I)V"⟩ prog_16_method_2_code 3 none ∈ GT := gt_14 (List.mem_of_getElem? (i := 107) rfl) rfl
theorem wd_3228 : Cond.constantLong "CarHouseModel" 386 435744240755 ∈ GT := gt_14 (List.mem_of_getElem? (i := 108) rfl) rfl
theorem wd_3229 : Cond.methodLink "CarHouseModel" 388 ⟨"CarHouseModel", "addState", "()Z"⟩ ∈ GT := gt_14 (List.mem_of_getElem? (i := 109) rfl) rfl
theorem wd_3231 : Cond.instanceMethod ⟨"CarHouseModel", "addState", "()Z"⟩ ∈ GT := gt_14 (List.mem_of_getElem? (i := 111) rfl) rfl
theorem wd_3232 : Cond.code ⟨"CarHouseModel", "addState", "()Z"⟩ prog_14_method_33_code 7 (some .boolean) ∈ GT := gt_14 (List.mem_of_getElem? (i := 112) rfl) rfl
theorem wd_3233 : Cond.methodLink "CarHouseModel" 359 ⟨"CarHouseModel", "findState", "(I)I"⟩ ∈ GT := gt_14 (List.mem_of_getElem? (i := 113) rfl) rfl
theorem wd_3235 : Cond.instanceMethod ⟨"CarHouseModel", "findState", "(I)I"⟩ ∈ GT := gt_14 (List.mem_of_getElem? (i := 115) rfl) rfl
theorem wd_3236 : Cond.code ⟨"CarHouseModel", "findState", "(I)I"⟩ prog_14_method_22_code 3 (some .int) ∈ GT := gt_14 (List.mem_of_getElem? (i := 116) rfl) rfl
theorem wd_3237 : Cond.methodLink "CarHouseModel" 477 ⟨"CarHouseModel", "newIn", "(Z)Z"⟩ ∈ GT := gt_14 (List.mem_of_getElem? (i := 117) rfl) rfl
theorem wd_3239 : Cond.instanceMethod ⟨"CarHouseModel", "newIn", "(Z)Z"⟩ ∈ GT := gt_14 (List.mem_of_getElem? (i := 119) rfl) rfl
theorem wd_3240 : Cond.code ⟨"CarHouseModel", "newIn", "(Z)Z"⟩ prog_14_method_31_code 2 (some .boolean) ∈ GT := gt_14 (List.mem_of_getElem? (i := 120) rfl) rfl
theorem wd_3241 : Cond.constantLong "CarHouseModel" 463 7368564 ∈ GT := gt_14 (List.mem_of_getElem? (i := 121) rfl) rfl
theorem wd_3242 : Cond.methodLink "CarHouseModel" 481 ⟨"CarHouseModel", "takes", "(J)Z"⟩ ∈ GT := gt_14 (List.mem_of_getElem? (i := 122) rfl) rfl
theorem wd_3244 : Cond.instanceMethod ⟨"CarHouseModel", "takes", "(J)Z"⟩ ∈ GT := gt_14 (List.mem_of_getElem? (i := 124) rfl) rfl
theorem wd_3245 : Cond.code ⟨"CarHouseModel", "takes", "(J)Z"⟩ prog_14_method_11_code 4 (some .boolean) ∈ GT := gt_14 (List.mem_of_getElem? (i := 125) rfl) rfl
theorem wd_3246 : Cond.methodLink "CarHouseModel" 485 ⟨"CarHouseModel", "state", "(I)I"⟩ ∈ GT := gt_14 (List.mem_of_getElem? (i := 126) rfl) rfl
theorem wd_3248 : Cond.instanceMethod ⟨"CarHouseModel", "state", "(I)I"⟩ ∈ GT := gt_14 (List.mem_of_getElem? (i := 128) rfl) rfl
theorem wd_3249 : Cond.code ⟨"CarHouseModel", "state", "(I)I"⟩ prog_14_method_24_code 4 (some .int) ∈ GT := gt_14 (List.mem_of_getElem? (i := 129) rfl) rfl
theorem wd_3250 : Cond.methodLink "CarHouseModel" 488 ⟨"CarHouseModel", "kind", "()I"⟩ ∈ GT := gt_14 (List.mem_of_getElem? (i := 130) rfl) rfl
theorem wd_3252 : Cond.instanceMethod ⟨"CarHouseModel", "kind", "()I"⟩ ∈ GT := gt_14 (List.mem_of_getElem? (i := 132) rfl) rfl
theorem wd_3253 : Cond.code ⟨"CarHouseModel", "kind", "()I"⟩ prog_14_method_32_code 1 (some .int) ∈ GT := gt_14 (List.mem_of_getElem? (i := 133) rfl) rfl
theorem wd_3254 : Cond.constantLong "CarHouseModel" 465 474214394992 ∈ GT := gt_14 (List.mem_of_getElem? (i := 134) rfl) rfl
theorem wd_3255 : Cond.constantLong "CarHouseModel" 467 499984920691 ∈ GT := gt_14 (List.mem_of_getElem? (i := 135) rfl) rfl
theorem wd_3256 : Cond.constantLong "CarHouseModel" 469 34184295202646376 ∈ GT := gt_14 (List.mem_of_getElem? (i := 136) rfl) rfl
theorem wd_3257 : Cond.constantLong "CarHouseModel" 471 1885693284 ∈ GT := gt_14 (List.mem_of_getElem? (i := 137) rfl) rfl
theorem wd_3258 : Cond.constantLong "CarHouseModel" 473 1802661734 ∈ GT := gt_14 (List.mem_of_getElem? (i := 138) rfl) rfl
theorem wd_3259 : Cond.constantLong "CarHouseModel" 475 1852403562 ∈ GT := gt_14 (List.mem_of_getElem? (i := 139) rfl) rfl
theorem wd_3260 : Cond.methodLink "CarHouseModel" 491 ⟨"CarHouseModel$Chart", "state", "(II)I"⟩ ∈ GT := gt_14 (List.mem_of_getElem? (i := 140) rfl) rfl
theorem wd_3261 : Cond.instanceMethod ⟨"CarHouseModel$Chart", "state", "(II)I"⟩ ∈ GT := gt_14 (List.mem_of_getElem? (i := 141) rfl) rfl
theorem wd_3262 : Cond.selects "CarHouseModel$Chart" ⟨"CarHouseModel$Chart", "state", "(II)I"⟩ ⟨"CarHouseModel$Chart", "state", "(II)I"⟩ ∈ GT := gt_14 (List.mem_of_getElem? (i := 142) rfl) rfl
theorem wd_3263 : Cond.code ⟨"CarHouseModel$Chart", "state", "(II)I"⟩ prog_16_method_7_code 3 (some .int) ∈ GT := gt_14 (List.mem_of_getElem? (i := 143) rfl) rfl
theorem wd_3264 : Cond.methodLink "CarHouseModel$Chart" 135 ⟨"CarHouseModel$Chart", "none", "(I)Z"⟩ ∈ GT := gt_14 (List.mem_of_getElem? (i := 144) rfl) rfl
theorem wd_3266 : Cond.instanceMethod ⟨"CarHouseModel$Chart", "none", "(I)Z"⟩ ∈ GT := gt_14 (List.mem_of_getElem? (i := 146) rfl) rfl
theorem wd_3267 : Cond.code ⟨"CarHouseModel$Chart", "none", "(I)Z"⟩ prog_16_method_5_code 2 (some .boolean) ∈ GT := gt_14 (List.mem_of_getElem? (i := 147) rfl) rfl
theorem wd_3268 : Cond.methodLink "CarHouseModel$Chart" 139 ⟨"CarHouseModel$Chart", "mark", "(I)Z"⟩ ∈ GT := gt_14 (List.mem_of_getElem? (i := 148) rfl) rfl
theorem wd_3270 : Cond.instanceMethod ⟨"CarHouseModel$Chart", "mark", "(I)Z"⟩ ∈ GT := gt_14 (List.mem_of_getElem? (i := 150) rfl) rfl
theorem wd_3271 : Cond.code ⟨"CarHouseModel$Chart", "mark", "(I)Z"⟩ prog_16_method_6_code 2 (some .boolean) ∈ GT := gt_14 (List.mem_of_getElem? (i := 151) rfl) rfl
theorem wd_3272 : Cond.methodLink "CarHouseModel" 494 ⟨"CarHouseModel", "fits", "(I)Z"⟩ ∈ GT := gt_14 (List.mem_of_getElem? (i := 152) rfl) rfl
theorem wd_3274 : Cond.instanceMethod ⟨"CarHouseModel", "fits", "(I)Z"⟩ ∈ GT := gt_14 (List.mem_of_getElem? (i := 154) rfl) rfl
theorem wd_3275 : Cond.code ⟨"CarHouseModel", "fits", "(I)Z"⟩ prog_14_method_26_code 2 (some .boolean) ∈ GT := gt_14 (List.mem_of_getElem? (i := 155) rfl) rfl
theorem wd_3276 : Cond.constantLong "CarHouseModel" 391 1701274725 ∈ GT := gt_14 (List.mem_of_getElem? (i := 156) rfl) rfl
theorem wd_3277 : Cond.methodLink "CarHouseModel" 393 ⟨"CarHouseModel", "addEdge", "()Z"⟩ ∈ GT := gt_14 (List.mem_of_getElem? (i := 157) rfl) rfl
