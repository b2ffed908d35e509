/-! ===== the law's cases (j) ===== -/
theorem cs36 {sc : List Int32} {b : Nat} {i : Int32} {hp : amH} (i0 : 0 ≤ i.toInt) (i1 : i.toInt + 6 ≤ (sc.length : Int)) (hL : sc.length ≤ 100000) (hI : lawI hp) (hN : ∀ hp1, lawI hp1 → lV sc b 2256 i hp1) : lV sc (b + 1) 1521 i hp := by
  refine cald 1522 (lI3 108 rfl) rfl rfl ?_
  refine ccall (kd := 0) (t := 0) [.ref 0] [] hI.1 (lI3 109 rfl) (Or.inl ⟨_, rfl, rfl, by decide, by decide⟩) rfl rfl rfl ⟨rfl, rfl, rfl⟩ rfl (recv0 hI.1 _) rfl (qI (bL8_s be_113 (List.mem_of_getElem? (i := 78) rfl)) rfl hI ⟨a0r, trivial⟩ rfl rfl rfl rfl (fun r1522 hp1522 hI1522 => Or.inl ⟨_, rfl, ?_⟩) (fun E _ _ hE => by cases hE))
  refine cpop 1526 (lI3 110 rfl) rfl rfl ?_
  refine cald 1527 (lI3 111 rfl) rfl rfl ?_
  refine ccall (kd := 0) (t := 0) [.ref 66] [] hI1522.1 (lI3 112 rfl) (Or.inl ⟨_, rfl, rfl, by decide, by decide⟩) rfl rfl rfl ⟨rfl, rfl, rfl⟩ rfl (recv66 hI1522.1 _) rfl (qI (bQ6_s bf_67 (List.mem_of_getElem? (i := 66) rfl)) rfl hI1522 ⟨a66r, trivial⟩ rfl rfl rfl rfl (fun r1527 hp1527 hI1527 => Or.inl ⟨_, rfl, ?_⟩) (fun E _ _ hE => by cases hE))
  refine cpop 1531 (lI3 113 rfl) rfl rfl ?_
  refine cgoto (lI3 114 rfl) ?_
  exact cmono (hN hp1527 hI1527) (fun y hp9 m9 s9 h9 => ⟨h9.1, by have := h9.2.1; omega, by have := h9.2.2; omega⟩)
theorem cs37 {sc : List Int32} {b : Nat} {i : Int32} {hp : amH} (i0 : 0 ≤ i.toInt) (i1 : i.toInt + 6 ≤ (sc.length : Int)) (hL : sc.length ≤ 100000) (hI : lawI hp) (hN : ∀ hp1, lawI hp1 → lV sc b 2256 i hp1) : lV sc (b + 1) 1534 i hp := by
  refine cald 1535 (lI3 115 rfl) rfl rfl ?_
  refine cald 1536 (lI3 116 rfl) rfl rfl ?_
  refine cild2 1538 (lI3 117 rfl) rfl rfl ?_
  refine ccst 1539 (1) (lI3 118 rfl) rfl (by decide) (fun z1538 h1538 => ?_)
  refine cadd 1540 _ (lI3 119 rfl) rfl rfl (by omega) (by omega) (fun z1539 h1539 => ?_)
  refine cscl 1541 (lI3 120 rfl) rfl (by omega) (by omega) (fun w1540 => ?_)
  refine cald 1542 (lI3 121 rfl) rfl rfl ?_
  refine cild2 1544 (lI3 122 rfl) rfl rfl ?_
  refine ccst 1545 (2) (lI3 123 rfl) rfl (by decide) (fun z1544 h1544 => ?_)
  refine cadd 1546 _ (lI3 124 rfl) rfl rfl (by omega) (by omega) (fun z1545 h1545 => ?_)
  refine cscl 1547 (lI3 125 rfl) rfl (by omega) (by omega) (fun w1546 => ?_)
  refine cald 1548 (lI3 126 rfl) rfl rfl ?_
  refine cild2 1550 (lI3 127 rfl) rfl rfl ?_
  refine ccst 1551 (3) (lI3 128 rfl) rfl (by decide) (fun z1550 h1550 => ?_)
  refine cadd 1552 _ (lI3 129 rfl) rfl rfl (by omega) (by omega) (fun z1551 h1551 => ?_)
  refine cscl 1553 (lI3 130 rfl) rfl (by omega) (by omega) (fun w1552 => ?_)
  refine cald 1554 (lI3 131 rfl) rfl rfl ?_
  refine ccall (kd := 1) (t := 0) [.ref 0, .int _, .int _, .int _, .ref 83] [] hI.1 (lI3 132 rfl) (Or.inr ⟨_, rfl, rfl, by decide⟩) rfl rfl rfl ⟨rfl, rfl, rfl⟩ rfl rfl rfl (h371 (d := 579) hI (fun r1554 hp1554 mc ms hI1554 hmc hms => Or.inl ⟨_, rfl, ?_⟩))
  refine cistU 1559 (lI3 133 rfl) rfl rfl rfl ?_
  refine cald 1560 (lI3 134 rfl) rfl rfl ?_
  refine cald 1561 (lI3 135 rfl) rfl rfl ?_
  refine cild2 1563 (lI3 136 rfl) rfl rfl ?_
  refine ccst 1564 (1) (lI3 137 rfl) rfl (by decide) (fun z1563 h1563 => ?_)
  refine cadd 1565 _ (lI3 138 rfl) rfl rfl (by omega) (by omega) (fun z1564 h1564 => ?_)
  refine cscl 1566 (lI3 139 rfl) rfl (by omega) (by omega) (fun w1565 => ?_)
  refine cald 1567 (lI3 140 rfl) rfl rfl ?_
  refine cild2 1569 (lI3 141 rfl) rfl rfl ?_
  refine ccst 1570 (2) (lI3 142 rfl) rfl (by decide) (fun z1569 h1569 => ?_)
  refine cadd 1571 _ (lI3 143 rfl) rfl rfl (by omega) (by omega) (fun z1570 h1570 => ?_)
  refine cscl 1572 (lI3 144 rfl) rfl (by omega) (by omega) (fun w1571 => ?_)
  refine cald 1573 (lI3 145 rfl) rfl rfl ?_
  refine cild2 1575 (lI3 146 rfl) rfl rfl ?_
  refine ccst 1576 (3) (lI3 147 rfl) rfl (by decide) (fun z1575 h1575 => ?_)
  refine cadd 1577 _ (lI3 148 rfl) rfl rfl (by omega) (by omega) (fun z1576 h1576 => ?_)
  refine cscl 1578 (lI3 149 rfl) rfl (by omega) (by omega) (fun w1577 => ?_)
  refine ccall (kd := 0) (t := 0) [.ref 66, .int _, .int _, .int _] [] hI1554.1 (lI3 150 rfl) (Or.inl ⟨_, rfl, rfl, by decide, by decide⟩) rfl rfl rfl ⟨rfl, rfl, rfl⟩ rfl (recv66 hI1554.1 _) rfl (qI p314_s rfl hI1554 ⟨a66r, ai _, ai _, ai _, trivial⟩ rfl rfl rfl rfl (fun r1578 hp1578 hI1578 => Or.inl ⟨_, rfl, ?_⟩) (fun E _ _ hE => by cases hE))
  refine cistU 1583 (lI3 151 rfl) rfl rfl rfl ?_
  refine cgoto (lI3 152 rfl) ?_
  exact cmono (hN hp1578 hI1578) (fun y hp9 m9 s9 h9 => ⟨h9.1, by have := h9.2.1; omega, by have := h9.2.2; omega⟩)
theorem cs38 {sc : List Int32} {b : Nat} {i : Int32} {hp : amH} (i0 : 0 ≤ i.toInt) (i1 : i.toInt + 6 ≤ (sc.length : Int)) (hL : sc.length ≤ 100000) (hI : lawI hp) (hN : ∀ hp1, lawI hp1 → lV sc b 2256 i hp1) : lV sc (b + 1) 1586 i hp := by
  refine cald 1587 (lI3 153 rfl) rfl rfl ?_
  refine cald 1588 (lI3 154 rfl) rfl rfl ?_
  refine cild2 1590 (lI3 155 rfl) rfl rfl ?_
  refine ccst 1591 (1) (lI3 156 rfl) rfl (by decide) (fun z1590 h1590 => ?_)
  refine cadd 1592 _ (lI3 157 rfl) rfl rfl (by omega) (by omega) (fun z1591 h1591 => ?_)
  refine cscl 1593 (lI3 158 rfl) rfl (by omega) (by omega) (fun w1592 => ?_)
  refine cald 1594 (lI3 159 rfl) rfl rfl ?_
  refine cild2 1596 (lI3 160 rfl) rfl rfl ?_
  refine ccst 1597 (2) (lI3 161 rfl) rfl (by decide) (fun z1596 h1596 => ?_)
  refine cadd 1598 _ (lI3 162 rfl) rfl rfl (by omega) (by omega) (fun z1597 h1597 => ?_)
  refine cscl 1599 (lI3 163 rfl) rfl (by omega) (by omega) (fun w1598 => ?_)
  refine cald 1600 (lI3 164 rfl) rfl rfl ?_
  refine cild2 1602 (lI3 165 rfl) rfl rfl ?_
  refine ccst 1603 (3) (lI3 166 rfl) rfl (by decide) (fun z1602 h1602 => ?_)
  refine cadd 1604 _ (lI3 167 rfl) rfl rfl (by omega) (by omega) (fun z1603 h1603 => ?_)
  refine cscl 1605 (lI3 168 rfl) rfl (by omega) (by omega) (fun w1604 => ?_)
  refine cald 1606 (lI3 169 rfl) rfl rfl ?_
  refine ccall (kd := 1) (t := 0) [.ref 0, .int _, .int _, .int _, .ref 83] [] hI.1 (lI3 170 rfl) (Or.inr ⟨_, rfl, rfl, by decide⟩) rfl rfl rfl ⟨rfl, rfl, rfl⟩ rfl rfl rfl (h372 (d := 579) hI (fun r1606 hp1606 mc ms hI1606 hmc hms => Or.inl ⟨_, rfl, ?_⟩))
  refine cistU 1611 (lI3 171 rfl) rfl rfl rfl ?_
  refine cald 1612 (lI3 172 rfl) rfl rfl ?_
  refine cald 1613 (lI3 173 rfl) rfl rfl ?_
  refine cild2 1615 (lI3 174 rfl) rfl rfl ?_
  refine ccst 1616 (1) (lI3 175 rfl) rfl (by decide) (fun z1615 h1615 => ?_)
  refine cadd 1617 _ (lI3 176 rfl) rfl rfl (by omega) (by omega) (fun z1616 h1616 => ?_)
  refine cscl 1618 (lI3 177 rfl) rfl (by omega) (by omega) (fun w1617 => ?_)
  refine cald 1619 (lI3 178 rfl) rfl rfl ?_
  refine cild2 1621 (lI3 179 rfl) rfl rfl ?_
  refine ccst 1622 (2) (lI3 180 rfl) rfl (by decide) (fun z1621 h1621 => ?_)
  refine cadd 1623 _ (lI3 181 rfl) rfl rfl (by omega) (by omega) (fun z1622 h1622 => ?_)
  refine cscl 1624 (lI3 182 rfl) rfl (by omega) (by omega) (fun w1623 => ?_)
  refine cald 1625 (lI3 183 rfl) rfl rfl ?_
  refine cild2 1627 (lI3 184 rfl) rfl rfl ?_
  refine ccst 1628 (3) (lI3 185 rfl) rfl (by decide) (fun z1627 h1627 => ?_)
  refine cadd 1629 _ (lI3 186 rfl) rfl rfl (by omega) (by omega) (fun z1628 h1628 => ?_)
  refine cscl 1630 (lI3 187 rfl) rfl (by omega) (by omega) (fun w1629 => ?_)
  refine ccall (kd := 0) (t := 0) [.ref 66, .int _, .int _, .int _] [] hI1606.1 (lI3 188 rfl) (Or.inl ⟨_, rfl, rfl, by decide, by decide⟩) rfl rfl rfl ⟨rfl, rfl, rfl⟩ rfl (recv66 hI1606.1 _) rfl (qI p315_s rfl hI1606 ⟨a66r, ai _, ai _, ai _, trivial⟩ rfl rfl rfl rfl (fun r1630 hp1630 hI1630 => Or.inl ⟨_, rfl, ?_⟩) (fun E _ _ hE => by cases hE))
  refine cistU 1635 (lI3 189 rfl) rfl rfl rfl ?_
  refine cgoto (lI3 190 rfl) ?_
  exact cmono (hN hp1630 hI1630) (fun y hp9 m9 s9 h9 => ⟨h9.1, by have := h9.2.1; omega, by have := h9.2.2; omega⟩)
theorem cs39 {sc : List Int32} {b : Nat} {i : Int32} {hp : amH} (i0 : 0 ≤ i.toInt) (i1 : i.toInt + 6 ≤ (sc.length : Int)) (hL : sc.length ≤ 100000) (hI : lawI hp) (hN : ∀ hp1, lawI hp1 → lV sc b 2256 i hp1) : lV sc (b + 1) 1638 i hp := by
  refine cald 1639 (lI3 191 rfl) rfl rfl ?_
  refine cald 1640 (lI3 192 rfl) rfl rfl ?_
  refine cild2 1642 (lI3 193 rfl) rfl rfl ?_
  refine ccst 1643 (1) (lI3 194 rfl) rfl (by decide) (fun z1642 h1642 => ?_)
  refine cadd 1644 _ (lI3 195 rfl) rfl rfl (by omega) (by omega) (fun z1643 h1643 => ?_)
  refine cscl 1645 (lI3 196 rfl) rfl (by omega) (by omega) (fun w1644 => ?_)
  refine cald 1646 (lI3 197 rfl) rfl rfl ?_
  refine cild2 1648 (lI3 198 rfl) rfl rfl ?_
  refine ccst 1649 (2) (lI3 199 rfl) rfl (by decide) (fun z1648 h1648 => ?_)
  refine cadd 1650 _ (lI3 200 rfl) rfl rfl (by omega) (by omega) (fun z1649 h1649 => ?_)
  refine cscl 1651 (lI3 201 rfl) rfl (by omega) (by omega) (fun w1650 => ?_)
  refine cald 1652 (lI3 202 rfl) rfl rfl ?_
  refine cild2 1654 (lI3 203 rfl) rfl rfl ?_
  refine ccst 1655 (3) (lI3 204 rfl) rfl (by decide) (fun z1654 h1654 => ?_)
  refine cadd 1656 _ (lI3 205 rfl) rfl rfl (by omega) (by omega) (fun z1655 h1655 => ?_)
  refine cscl 1657 (lI3 206 rfl) rfl (by omega) (by omega) (fun w1656 => ?_)
  refine cald 1658 (lI3 207 rfl) rfl rfl ?_
  refine ccall (kd := 1) (t := 0) [.ref 0, .int _, .int _, .int _, .ref 83] [] hI.1 (lI3 208 rfl) (Or.inr ⟨_, rfl, rfl, by decide⟩) rfl rfl rfl ⟨rfl, rfl, rfl⟩ rfl rfl rfl (h373 (d := 579) hI (fun r1658 hp1658 mc ms hI1658 hmc hms => Or.inl ⟨_, rfl, ?_⟩))
  refine cistU 1663 (lI3 209 rfl) rfl rfl rfl ?_
  refine cald 1664 (lI3 210 rfl) rfl rfl ?_
  refine cald 1665 (lI3 211 rfl) rfl rfl ?_
  refine cild2 1667 (lI3 212 rfl) rfl rfl ?_
  refine ccst 1668 (1) (lI3 213 rfl) rfl (by decide) (fun z1667 h1667 => ?_)
  refine cadd 1669 _ (lI3 214 rfl) rfl rfl (by omega) (by omega) (fun z1668 h1668 => ?_)
  refine cscl 1670 (lI3 215 rfl) rfl (by omega) (by omega) (fun w1669 => ?_)
  refine cald 1671 (lI3 216 rfl) rfl rfl ?_
  refine cild2 1673 (lI3 217 rfl) rfl rfl ?_
  refine ccst 1674 (2) (lI3 218 rfl) rfl (by decide) (fun z1673 h1673 => ?_)
  refine cadd 1675 _ (lI3 219 rfl) rfl rfl (by omega) (by omega) (fun z1674 h1674 => ?_)
  refine cscl 1676 (lI3 220 rfl) rfl (by omega) (by omega) (fun w1675 => ?_)
  refine cald 1677 (lI3 221 rfl) rfl rfl ?_
  refine cild2 1679 (lI3 222 rfl) rfl rfl ?_
  refine ccst 1680 (3) (lI3 223 rfl) rfl (by decide) (fun z1679 h1679 => ?_)
  refine cadd 1681 _ (lI3 224 rfl) rfl rfl (by omega) (by omega) (fun z1680 h1680 => ?_)
  refine cscl 1682 (lI3 225 rfl) rfl (by omega) (by omega) (fun w1681 => ?_)
  refine ccall (kd := 0) (t := 0) [.ref 66, .int _, .int _, .int _] [] hI1658.1 (lI3 226 rfl) (Or.inl ⟨_, rfl, rfl, by decide, by decide⟩) rfl rfl rfl ⟨rfl, rfl, rfl⟩ rfl (recv66 hI1658.1 _) rfl (qI p316_s rfl hI1658 ⟨a66r, ai _, ai _, ai _, trivial⟩ rfl rfl rfl rfl (fun r1682 hp1682 hI1682 => Or.inl ⟨_, rfl, ?_⟩) (fun E _ _ hE => by cases hE))
  refine cistU 1687 (lI3 227 rfl) rfl rfl rfl ?_
  refine cgoto (lI3 228 rfl) ?_
  exact cmono (hN hp1682 hI1682) (fun y hp9 m9 s9 h9 => ⟨h9.1, by have := h9.2.1; omega, by have := h9.2.2; omega⟩)
theorem cs40 {sc : List Int32} {b : Nat} {i : Int32} {hp : amH} (i0 : 0 ≤ i.toInt) (i1 : i.toInt + 6 ≤ (sc.length : Int)) (hL : sc.length ≤ 100000) (hI : lawI hp) (hN : ∀ hp1, lawI hp1 → lV sc b 2256 i hp1) : lV sc (b + 1) 1690 i hp := by
  refine cald 1691 (lI3 229 rfl) rfl rfl ?_
  refine cald 1692 (lI3 230 rfl) rfl rfl ?_
  refine cild2 1694 (lI3 231 rfl) rfl rfl ?_
  refine ccst 1695 (1) (lI3 232 rfl) rfl (by decide) (fun z1694 h1694 => ?_)
  refine cadd 1696 _ (lI3 233 rfl) rfl rfl (by omega) (by omega) (fun z1695 h1695 => ?_)
  refine cscl 1697 (lI3 234 rfl) rfl (by omega) (by omega) (fun w1696 => ?_)
  refine cald 1698 (lI3 235 rfl) rfl rfl ?_
  refine cild2 1700 (lI3 236 rfl) rfl rfl ?_
  refine ccst 1701 (2) (lI3 237 rfl) rfl (by decide) (fun z1700 h1700 => ?_)
  refine cadd 1702 _ (lI3 238 rfl) rfl rfl (by omega) (by omega) (fun z1701 h1701 => ?_)
  refine cscl 1703 (lI3 239 rfl) rfl (by omega) (by omega) (fun w1702 => ?_)
  refine cald 1704 (lI3 240 rfl) rfl rfl ?_
  refine cild2 1706 (lI3 241 rfl) rfl rfl ?_
  refine ccst 1707 (3) (lI3 242 rfl) rfl (by decide) (fun z1706 h1706 => ?_)
  refine cadd 1708 _ (lI3 243 rfl) rfl rfl (by omega) (by omega) (fun z1707 h1707 => ?_)
  refine cscl 1709 (lI3 244 rfl) rfl (by omega) (by omega) (fun w1708 => ?_)
  refine cald 1710 (lI3 245 rfl) rfl rfl ?_
  refine ccall (kd := 1) (t := 0) [.ref 0, .int _, .int _, .int _, .ref 83] [] hI.1 (lI3 246 rfl) (Or.inr ⟨_, rfl, rfl, by decide⟩) rfl rfl rfl ⟨rfl, rfl, rfl⟩ rfl rfl rfl (h374 (d := 579) hI (fun r1710 hp1710 mc ms hI1710 hmc hms => Or.inl ⟨_, rfl, ?_⟩))
  refine cistU 1715 (lI3 247 rfl) rfl rfl rfl ?_
  refine cald 1716 (lI3 248 rfl) rfl rfl ?_
  refine cald 1717 (lI3 249 rfl) rfl rfl ?_
  refine cild2 1719 (lI4 0 rfl) rfl rfl ?_
  refine ccst 1720 (1) (lI4 1 rfl) rfl (by decide) (fun z1719 h1719 => ?_)
  refine cadd 1721 _ (lI4 2 rfl) rfl rfl (by omega) (by omega) (fun z1720 h1720 => ?_)
  refine cscl 1722 (lI4 3 rfl) rfl (by omega) (by omega) (fun w1721 => ?_)
  refine cald 1723 (lI4 4 rfl) rfl rfl ?_
  refine cild2 1725 (lI4 5 rfl) rfl rfl ?_
  refine ccst 1726 (2) (lI4 6 rfl) rfl (by decide) (fun z1725 h1725 => ?_)
  refine cadd 1727 _ (lI4 7 rfl) rfl rfl (by omega) (by omega) (fun z1726 h1726 => ?_)
  refine cscl 1728 (lI4 8 rfl) rfl (by omega) (by omega) (fun w1727 => ?_)
  refine cald 1729 (lI4 9 rfl) rfl rfl ?_
  refine cild2 1731 (lI4 10 rfl) rfl rfl ?_
  refine ccst 1732 (3) (lI4 11 rfl) rfl (by decide) (fun z1731 h1731 => ?_)
  refine cadd 1733 _ (lI4 12 rfl) rfl rfl (by omega) (by omega) (fun z1732 h1732 => ?_)
  refine cscl 1734 (lI4 13 rfl) rfl (by omega) (by omega) (fun w1733 => ?_)
  refine ccall (kd := 0) (t := 0) [.ref 66, .int _, .int _, .int _] [] hI1710.1 (lI4 14 rfl) (Or.inl ⟨_, rfl, rfl, by decide, by decide⟩) rfl rfl rfl ⟨rfl, rfl, rfl⟩ rfl (recv66 hI1710.1 _) rfl (qI p317_s rfl hI1710 ⟨a66r, ai _, ai _, ai _, trivial⟩ rfl rfl rfl rfl (fun r1734 hp1734 hI1734 => Or.inl ⟨_, rfl, ?_⟩) (fun E _ _ hE => by cases hE))
  refine cistU 1739 (lI4 15 rfl) rfl rfl rfl ?_
  refine cgoto (lI4 16 rfl) ?_
  exact cmono (hN hp1734 hI1734) (fun y hp9 m9 s9 h9 => ⟨h9.1, by have := h9.2.1; omega, by have := h9.2.2; omega⟩)
theorem cs41 {sc : List Int32} {b : Nat} {i : Int32} {hp : amH} (i0 : 0 ≤ i.toInt) (i1 : i.toInt + 6 ≤ (sc.length : Int)) (hL : sc.length ≤ 100000) (hI : lawI hp) (hN : ∀ hp1, lawI hp1 → lV sc b 2256 i hp1) : lV sc (b + 1) 1742 i hp := by
  refine cald 1743 (lI4 17 rfl) rfl rfl ?_
  refine cald 1744 (lI4 18 rfl) rfl rfl ?_
  refine cild2 1746 (lI4 19 rfl) rfl rfl ?_
  refine ccst 1747 (1) (lI4 20 rfl) rfl (by decide) (fun z1746 h1746 => ?_)
  refine cadd 1748 _ (lI4 21 rfl) rfl rfl (by omega) (by omega) (fun z1747 h1747 => ?_)
  refine cscl 1749 (lI4 22 rfl) rfl (by omega) (by omega) (fun w1748 => ?_)
  refine cald 1750 (lI4 23 rfl) rfl rfl ?_
  refine ccall (kd := 1) (t := 0) [.ref 0, .int _, .ref 83] [] hI.1 (lI4 24 rfl) (Or.inr ⟨_, rfl, rfl, by decide⟩) rfl rfl rfl ⟨rfl, rfl, rfl⟩ rfl rfl rfl (h375 (d := 579) hI (fun r1750 hp1750 mc ms hI1750 hmc hms => Or.inl ⟨_, rfl, ?_⟩))
  refine cistU 1755 (lI4 25 rfl) rfl rfl rfl ?_
  refine cald 1756 (lI4 26 rfl) rfl rfl ?_
  refine cald 1757 (lI4 27 rfl) rfl rfl ?_
  refine cild2 1759 (lI4 28 rfl) rfl rfl ?_
  refine ccst 1760 (1) (lI4 29 rfl) rfl (by decide) (fun z1759 h1759 => ?_)
  refine cadd 1761 _ (lI4 30 rfl) rfl rfl (by omega) (by omega) (fun z1760 h1760 => ?_)
  refine cscl 1762 (lI4 31 rfl) rfl (by omega) (by omega) (fun w1761 => ?_)
  refine ccall (kd := 0) (t := 0) [.ref 66, .int _] [] hI1750.1 (lI4 32 rfl) (Or.inl ⟨_, rfl, rfl, by decide, by decide⟩) rfl rfl rfl ⟨rfl, rfl, rfl⟩ rfl (recv66 hI1750.1 _) rfl (qI p318_s rfl hI1750 ⟨a66r, ai _, trivial⟩ rfl rfl rfl rfl (fun r1762 hp1762 hI1762 => Or.inl ⟨_, rfl, ?_⟩) (fun E _ _ hE => by cases hE))
  refine cistU 1767 (lI4 33 rfl) rfl rfl rfl ?_
  refine cgoto (lI4 34 rfl) ?_
  exact cmono (hN hp1762 hI1762) (fun y hp9 m9 s9 h9 => ⟨h9.1, by have := h9.2.1; omega, by have := h9.2.2; omega⟩)
theorem cs42 {sc : List Int32} {b : Nat} {i : Int32} {hp : amH} (i0 : 0 ≤ i.toInt) (i1 : i.toInt + 6 ≤ (sc.length : Int)) (hL : sc.length ≤ 100000) (hI : lawI hp) (hN : ∀ hp1, lawI hp1 → lV sc b 2256 i hp1) : lV sc (b + 1) 1770 i hp := by
  refine cald 1771 (lI4 35 rfl) rfl rfl ?_
  refine cald 1772 (lI4 36 rfl) rfl rfl ?_
  refine ccall (kd := 1) (t := 0) [.ref 0, .ref 83] [] hI.1 (lI4 37 rfl) (Or.inr ⟨_, rfl, rfl, by decide⟩) rfl rfl rfl ⟨rfl, rfl, rfl⟩ rfl rfl rfl (h376 (d := 579) hI (fun r1772 hp1772 mc ms hI1772 hmc hms => Or.inl ⟨_, rfl, ?_⟩))
  refine cistU 1777 (lI4 38 rfl) rfl rfl rfl ?_
  refine cald 1778 (lI4 39 rfl) rfl rfl ?_
  refine ccall (kd := 0) (t := 0) [.ref 66] [] hI1772.1 (lI4 40 rfl) (Or.inl ⟨_, rfl, rfl, by decide, by decide⟩) rfl rfl rfl ⟨rfl, rfl, rfl⟩ rfl (recv66 hI1772.1 _) rfl (qI p320_s rfl hI1772 ⟨a66r, trivial⟩ rfl rfl rfl rfl (fun r1778 hp1778 hI1778 => Or.inl ⟨_, rfl, ?_⟩) (fun E _ _ hE => by cases hE))
  refine cistU 1783 (lI4 41 rfl) rfl rfl rfl ?_
  refine cgoto (lI4 42 rfl) ?_
  exact cmono (hN hp1778 hI1778) (fun y hp9 m9 s9 h9 => ⟨h9.1, by have := h9.2.1; omega, by have := h9.2.2; omega⟩)
theorem cs43 {sc : List Int32} {b : Nat} {i : Int32} {hp : amH} (i0 : 0 ≤ i.toInt) (i1 : i.toInt + 6 ≤ (sc.length : Int)) (hL : sc.length ≤ 100000) (hI : lawI hp) (hN : ∀ hp1, lawI hp1 → lV sc b 2256 i hp1) : lV sc (b + 1) 1786 i hp := by
  refine cald 1787 (lI4 43 rfl) rfl rfl ?_
  refine cald 1788 (lI4 44 rfl) rfl rfl ?_
  refine cild2 1790 (lI4 45 rfl) rfl rfl ?_
  refine ccst 1791 (1) (lI4 46 rfl) rfl (by decide) (fun z1790 h1790 => ?_)
  refine cadd 1792 _ (lI4 47 rfl) rfl rfl (by omega) (by omega) (fun z1791 h1791 => ?_)
  refine cscl 1793 (lI4 48 rfl) rfl (by omega) (by omega) (fun w1792 => ?_)
  refine ccall (kd := 0) (t := 0) [.ref 0, .int _] [] hI.1 (lI4 49 rfl) (Or.inl ⟨_, rfl, rfl, by decide, by decide⟩) rfl rfl rfl ⟨rfl, rfl, rfl⟩ rfl (recv0 hI.1 _) rfl (qI (bL8_s be_131 (List.mem_of_getElem? (i := 60) rfl)) rfl hI ⟨a0r, ai _, trivial⟩ rfl rfl rfl rfl (fun r1793 hp1793 hI1793 => Or.inl ⟨_, rfl, ?_⟩) (fun E _ _ hE => by cases hE))
  refine cpop 1797 (lI4 50 rfl) rfl rfl ?_
  refine cald 1798 (lI4 51 rfl) rfl rfl ?_
  refine cald 1799 (lI4 52 rfl) rfl rfl ?_
  refine cild2 1801 (lI4 53 rfl) rfl rfl ?_
  refine ccst 1802 (1) (lI4 54 rfl) rfl (by decide) (fun z1801 h1801 => ?_)
  refine cadd 1803 _ (lI4 55 rfl) rfl rfl (by omega) (by omega) (fun z1802 h1802 => ?_)
  refine cscl 1804 (lI4 56 rfl) rfl (by omega) (by omega) (fun w1803 => ?_)
  refine ccall (kd := 0) (t := 0) [.ref 66, .int _] [] hI1793.1 (lI4 57 rfl) (Or.inl ⟨_, rfl, rfl, by decide, by decide⟩) rfl rfl rfl ⟨rfl, rfl, rfl⟩ rfl (recv66 hI1793.1 _) rfl (qI (bQ6_s bf_69 (List.mem_of_getElem? (i := 64) rfl)) rfl hI1793 ⟨a66r, ai _, trivial⟩ rfl rfl rfl rfl (fun r1804 hp1804 hI1804 => Or.inl ⟨_, rfl, ?_⟩) (fun E _ _ hE => by cases hE))
  refine cpop 1808 (lI4 58 rfl) rfl rfl ?_
  refine cgoto (lI4 59 rfl) ?_
  exact cmono (hN hp1804 hI1804) (fun y hp9 m9 s9 h9 => ⟨h9.1, by have := h9.2.1; omega, by have := h9.2.2; omega⟩)
theorem cs44 {sc : List Int32} {b : Nat} {i : Int32} {hp : amH} (i0 : 0 ≤ i.toInt) (i1 : i.toInt + 6 ≤ (sc.length : Int)) (hL : sc.length ≤ 100000) (hI : lawI hp) (hN : ∀ hp1, lawI hp1 → lV sc b 2256 i hp1) : lV sc (b + 1) 1811 i hp := by
  refine cald 1812 (lI4 60 rfl) rfl rfl ?_
  refine ccall (kd := 0) (t := 0) [.ref 0] [] hI.1 (lI4 61 rfl) (Or.inl ⟨_, rfl, rfl, by decide, by decide⟩) rfl rfl rfl ⟨rfl, rfl, rfl⟩ rfl (recv0 hI.1 _) rfl (qI (bL8_s be_133 (List.mem_of_getElem? (i := 58) rfl)) rfl hI ⟨a0r, trivial⟩ rfl rfl rfl rfl (fun r1812 hp1812 hI1812 => Or.inl ⟨_, rfl, ?_⟩) (fun E _ _ hE => by cases hE))
  refine cpop 1816 (lI4 62 rfl) rfl rfl ?_
  refine cald 1817 (lI4 63 rfl) rfl rfl ?_
  refine ccall (kd := 0) (t := 0) [.ref 66] [] hI1812.1 (lI4 64 rfl) (Or.inl ⟨_, rfl, rfl, by decide, by decide⟩) rfl rfl rfl ⟨rfl, rfl, rfl⟩ rfl (recv66 hI1812.1 _) rfl (qI p322_s rfl hI1812 ⟨a66r, trivial⟩ rfl rfl rfl rfl (fun r1817 hp1817 hI1817 => Or.inl ⟨_, rfl, ?_⟩) (fun E _ _ hE => by cases hE))
  refine cpop 1821 (lI4 65 rfl) rfl rfl ?_
  refine cgoto (lI4 66 rfl) ?_
  exact cmono (hN hp1817 hI1817) (fun y hp9 m9 s9 h9 => ⟨h9.1, by have := h9.2.1; omega, by have := h9.2.2; omega⟩)
theorem cs45 {sc : List Int32} {b : Nat} {i : Int32} {hp : amH} (i0 : 0 ≤ i.toInt) (i1 : i.toInt + 6 ≤ (sc.length : Int)) (hL : sc.length ≤ 100000) (hI : lawI hp) (hN : ∀ hp1, lawI hp1 → lV sc b 2256 i hp1) : lV sc (b + 1) 1824 i hp := by
  refine cald 1825 (lI4 67 rfl) rfl rfl ?_
  refine ccall (kd := 0) (t := 0) [.ref 0] [] hI.1 (lI4 68 rfl) (Or.inl ⟨_, rfl, rfl, by decide, by decide⟩) rfl rfl rfl ⟨rfl, rfl, rfl⟩ rfl (recv0 hI.1 _) rfl (qI (bL8_s be_135 (List.mem_of_getElem? (i := 56) rfl)) rfl hI ⟨a0r, trivial⟩ rfl rfl rfl rfl (fun r1825 hp1825 hI1825 => Or.inl ⟨_, rfl, ?_⟩) (fun E _ _ hE => by cases hE))
  refine cpop 1829 (lI4 69 rfl) rfl rfl ?_
  refine cald 1830 (lI4 70 rfl) rfl rfl ?_
  refine ccall (kd := 0) (t := 0) [.ref 66] [] hI1825.1 (lI4 71 rfl) (Or.inl ⟨_, rfl, rfl, by decide, by decide⟩) rfl rfl rfl ⟨rfl, rfl, rfl⟩ rfl (recv66 hI1825.1 _) rfl (qI p323_s rfl hI1825 ⟨a66r, trivial⟩ rfl rfl rfl rfl (fun r1830 hp1830 hI1830 => Or.inl ⟨_, rfl, ?_⟩) (fun E _ _ hE => by cases hE))
  refine cpop 1834 (lI4 72 rfl) rfl rfl ?_
  refine cgoto (lI4 73 rfl) ?_
  exact cmono (hN hp1830 hI1830) (fun y hp9 m9 s9 h9 => ⟨h9.1, by have := h9.2.1; omega, by have := h9.2.2; omega⟩)
theorem cs46 {sc : List Int32} {b : Nat} {i : Int32} {hp : amH} (i0 : 0 ≤ i.toInt) (i1 : i.toInt + 6 ≤ (sc.length : Int)) (hL : sc.length ≤ 100000) (hI : lawI hp) (hN : ∀ hp1, lawI hp1 → lV sc b 2256 i hp1) : lV sc (b + 1) 1837 i hp := by
  refine cald 1838 (lI4 74 rfl) rfl rfl ?_
  refine cald 1839 (lI4 75 rfl) rfl rfl ?_
  refine cild2 1841 (lI4 76 rfl) rfl rfl ?_
  refine ccst 1842 (1) (lI4 77 rfl) rfl (by decide) (fun z1841 h1841 => ?_)
  refine cadd 1843 _ (lI4 78 rfl) rfl rfl (by omega) (by omega) (fun z1842 h1842 => ?_)
  refine cscl 1844 (lI4 79 rfl) rfl (by omega) (by omega) (fun w1843 => ?_)
  refine ccall (kd := 0) (t := 0) [.ref 0, .int _] [] hI.1 (lI4 80 rfl) (Or.inl ⟨_, rfl, rfl, by decide, by decide⟩) rfl rfl rfl ⟨rfl, rfl, rfl⟩ rfl (recv0 hI.1 _) rfl (qI (bL8_s be_136 (List.mem_of_getElem? (i := 55) rfl)) rfl hI ⟨a0r, ai _, trivial⟩ rfl rfl rfl rfl (fun r1844 hp1844 hI1844 => Or.inl ⟨_, rfl, ?_⟩) (fun E _ _ hE => by cases hE))
  refine cpop 1848 (lI4 81 rfl) rfl rfl ?_
  refine cald 1849 (lI4 82 rfl) rfl rfl ?_
  refine cald 1850 (lI4 83 rfl) rfl rfl ?_
  refine cild2 1852 (lI4 84 rfl) rfl rfl ?_
  refine ccst 1853 (1) (lI4 85 rfl) rfl (by decide) (fun z1852 h1852 => ?_)
  refine cadd 1854 _ (lI4 86 rfl) rfl rfl (by omega) (by omega) (fun z1853 h1853 => ?_)
  refine cscl 1855 (lI4 87 rfl) rfl (by omega) (by omega) (fun w1854 => ?_)
  refine ccall (kd := 0) (t := 0) [.ref 66, .int _] [] hI1844.1 (lI4 88 rfl) (Or.inl ⟨_, rfl, rfl, by decide, by decide⟩) rfl rfl rfl ⟨rfl, rfl, rfl⟩ rfl (recv66 hI1844.1 _) rfl (qI p281_s rfl hI1844 ⟨a66r, ai _, trivial⟩ rfl rfl rfl rfl (fun r1855 hp1855 hI1855 => Or.inl ⟨_, rfl, ?_⟩) (fun E _ _ hE => by cases hE))
  refine cpop 1859 (lI4 89 rfl) rfl rfl ?_
  refine cgoto (lI4 90 rfl) ?_
  exact cmono (hN hp1855 hI1855) (fun y hp9 m9 s9 h9 => ⟨h9.1, by have := h9.2.1; omega, by have := h9.2.2; omega⟩)
theorem cs47 {sc : List Int32} {b : Nat} {i : Int32} {hp : amH} (i0 : 0 ≤ i.toInt) (i1 : i.toInt + 6 ≤ (sc.length : Int)) (hL : sc.length ≤ 100000) (hI : lawI hp) (hN : ∀ hp1, lawI hp1 → lV sc b 2256 i hp1) : lV sc (b + 1) 1862 i hp := by
  refine cald 1863 (lI4 91 rfl) rfl rfl ?_
  refine ccall (kd := 0) (t := 0) [.ref 0] [] hI.1 (lI4 92 rfl) (Or.inl ⟨_, rfl, rfl, by decide, by decide⟩) rfl rfl rfl ⟨rfl, rfl, rfl⟩ rfl (recv0 hI.1 _) rfl (qT (t := 2) (bL8_s be_137 (List.mem_of_getElem? (i := 54) rfl)) rfl hI ⟨a0r, trivial⟩ rfl rfl rfl rfl (fun r1863 hp1863 hI1863 hw1863 => Or.inl ⟨_, rfl, ?_⟩) (fun E _ _ hE => by cases hE))
  obtain ⟨r1863, rfl⟩ := bTd hw1863 rfl
  refine cdstU 1868 (lI4 93 rfl) rfl rfl rfl ?_
  refine cald 1869 (lI4 94 rfl) rfl rfl ?_
  refine ccall (kd := 0) (t := 0) [.ref 66] [] hI1863.1 (lI4 95 rfl) (Or.inl ⟨_, rfl, rfl, by decide, by decide⟩) rfl rfl rfl ⟨rfl, rfl, rfl⟩ rfl (recv66 hI1863.1 _) rfl (qT (t := 2) (bQ6_s bf_34 (List.mem_of_getElem? (i := 99) rfl)) rfl hI1863 ⟨a66r, trivial⟩ rfl rfl rfl rfl (fun r1869 hp1869 hI1869 hw1869 => Or.inl ⟨_, rfl, ?_⟩) (fun E _ _ hE => by cases hE))
  obtain ⟨r1869, rfl⟩ := bTd hw1869 rfl
  refine cdstU 1874 (lI4 96 rfl) rfl rfl rfl ?_
  refine cgoto (lI4 97 rfl) ?_
  exact cmono (hN hp1869 hI1869) (fun y hp9 m9 s9 h9 => ⟨h9.1, by have := h9.2.1; omega, by have := h9.2.2; omega⟩)
theorem cs48 {sc : List Int32} {b : Nat} {i : Int32} {hp : amH} (i0 : 0 ≤ i.toInt) (i1 : i.toInt + 6 ≤ (sc.length : Int)) (hL : sc.length ≤ 100000) (hI : lawI hp) (hN : ∀ hp1, lawI hp1 → lV sc b 2256 i hp1) : lV sc (b + 1) 1877 i hp := by
  refine cald 1878 (lI4 98 rfl) rfl rfl ?_
  refine ccall (kd := 0) (t := 0) [.ref 0] [] hI.1 (lI4 99 rfl) (Or.inl ⟨_, rfl, rfl, by decide, by decide⟩) rfl rfl rfl ⟨rfl, rfl, rfl⟩ rfl (recv0 hI.1 _) rfl (qT (t := 3) (bL8_s be_s161 (List.mem_of_getElem? (i := 37) rfl)) rfl hI ⟨a0r, trivial⟩ rfl rfl rfl rfl (fun r1878 hp1878 hI1878 hw1878 => Or.inl ⟨_, rfl, ?_⟩) (fun E _ _ hE => by cases hE))
  obtain ⟨r1878, rfl, hx1878⟩ := bTf hw1878 rfl
  refine cf2d 1882 (lI4 100 rfl) rfl hx1878 (fun w1881 => ?_)
  refine cdstU 1884 (lI4 101 rfl) rfl rfl rfl ?_
  refine cald 1885 (lI4 102 rfl) rfl rfl ?_
  refine ccall (kd := 0) (t := 0) [.ref 66] [] hI1878.1 (lI4 103 rfl) (Or.inl ⟨_, rfl, rfl, by decide, by decide⟩) rfl rfl rfl ⟨rfl, rfl, rfl⟩ rfl (recv66 hI1878.1 _) rfl (qT (t := 3) (bQ6_s bf_70 (List.mem_of_getElem? (i := 63) rfl)) rfl hI1878 ⟨a66r, trivial⟩ rfl rfl rfl rfl (fun r1885 hp1885 hI1885 hw1885 => Or.inl ⟨_, rfl, ?_⟩) (fun E _ _ hE => by cases hE))
  obtain ⟨r1885, rfl, hx1885⟩ := bTf hw1885 rfl
  refine cf2d 1889 (lI4 104 rfl) rfl hx1885 (fun w1888 => ?_)
  refine cdstU 1891 (lI4 105 rfl) rfl rfl rfl ?_
  refine cgoto (lI4 106 rfl) ?_
  exact cmono (hN hp1885 hI1885) (fun y hp9 m9 s9 h9 => ⟨h9.1, by have := h9.2.1; omega, by have := h9.2.2; omega⟩)
theorem cs49 {sc : List Int32} {b : Nat} {i : Int32} {hp : amH} (i0 : 0 ≤ i.toInt) (i1 : i.toInt + 6 ≤ (sc.length : Int)) (hL : sc.length ≤ 100000) (hI : lawI hp) (hN : ∀ hp1, lawI hp1 → lV sc b 2256 i hp1) : lV sc (b + 1) 1894 i hp := by
  refine cald 1895 (lI4 107 rfl) rfl rfl ?_
  refine cald 1896 (lI4 108 rfl) rfl rfl ?_
  refine cild2 1898 (lI4 109 rfl) rfl rfl ?_
  refine ccst 1899 (1) (lI4 110 rfl) rfl (by decide) (fun z1898 h1898 => ?_)
  refine cadd 1900 _ (lI4 111 rfl) rfl rfl (by omega) (by omega) (fun z1899 h1899 => ?_)
  refine cscl 1901 (lI4 112 rfl) rfl (by omega) (by omega) (fun w1900 => ?_)
  refine cald 1902 (lI4 113 rfl) rfl rfl ?_
  refine ccall (kd := 1) (t := 0) [.ref 0, .int _, .ref 83] [] hI.1 (lI4 114 rfl) (Or.inr ⟨_, rfl, rfl, by decide⟩) rfl rfl rfl ⟨rfl, rfl, rfl⟩ rfl rfl rfl (h377 (d := 579) hI (fun r1902 hp1902 mc ms hI1902 hmc hms => Or.inl ⟨_, rfl, ?_⟩))
  refine cistU 1907 (lI4 115 rfl) rfl rfl rfl ?_
  refine cald 1908 (lI4 116 rfl) rfl rfl ?_
  refine cald 1909 (lI4 117 rfl) rfl rfl ?_
  refine cild2 1911 (lI4 118 rfl) rfl rfl ?_
  refine ccst 1912 (1) (lI4 119 rfl) rfl (by decide) (fun z1911 h1911 => ?_)
  refine cadd 1913 _ (lI4 120 rfl) rfl rfl (by omega) (by omega) (fun z1912 h1912 => ?_)
  refine cscl 1914 (lI4 121 rfl) rfl (by omega) (by omega) (fun w1913 => ?_)
  refine ccall (kd := 0) (t := 0) [.ref 66, .int _] [] hI1902.1 (lI4 122 rfl) (Or.inl ⟨_, rfl, rfl, by decide, by decide⟩) rfl rfl rfl ⟨rfl, rfl, rfl⟩ rfl (recv66 hI1902.1 _) rfl (qI p327_s rfl hI1902 ⟨a66r, ai _, trivial⟩ rfl rfl rfl rfl (fun r1914 hp1914 hI1914 => Or.inl ⟨_, rfl, ?_⟩) (fun E _ _ hE => by cases hE))
  refine cistU 1919 (lI4 123 rfl) rfl rfl rfl ?_
  refine cgoto (lI4 124 rfl) ?_
  exact cmono (hN hp1914 hI1914) (fun y hp9 m9 s9 h9 => ⟨h9.1, by have := h9.2.1; omega, by have := h9.2.2; omega⟩)
