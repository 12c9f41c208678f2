/-! ===== printed by wip/gen/lawgen3.py: the law's cases ===== -/
theorem ly_c51 {L : Nat} {xs : Nat → Int32} {m : fl_M} {Q : Option fl_V → fl_M → Prop} {i : Nat} (hall : ∀ c ∈ at_CM ++ at_CA, at_Valid at_XI (pw_P L xs) c) (hL : L ≤ 3072) (hi : i + 6 ≤ L) (hg : t2_Z m) (kk : ∀ m' : fl_M, t2_Z m' → fl_Tq (pw_P L xs) 0 2030 (lx_lv i) [] m' Q) : fl_Tq (pw_P L xs) 0 1639 (lx_lv i) [] m Q := by
  obtain ⟨f, l⟩ := m
  refine fl_Tq.stp (pw_cod lx_k1639) rfl (fl_bo rfl) rfl ?_
  refine lx_arg (i := i) (jn := 1) (pw_cod lx_k1640) (pw_cod lx_k1641) (pw_cod lx_k1642) (pw_cod lx_k1643) (pw_cod lx_k1644) rfl (fl_bo rfl) hL (by omega) ?_
  refine lx_arg (i := i) (jn := 2) (pw_cod lx_k1645) (pw_cod lx_k1646) (pw_cod lx_k1647) (pw_cod lx_k1648) (pw_cod lx_k1649) rfl (fl_bo rfl) hL (by omega) ?_
  refine lx_callG (as_ := [lx_x, .inl (xs (i + 1)), .inl (xs (i + 2))]) (rest := []) (pw_cod lx_k1650) (pw_cll lx_l225) rfl (fl_bo rfl) rfl rfl (t2_qcall (hall _ at_c154_in) rfl hg ⟨lx_kx _, lx_ki _, lx_ki _, True.intro⟩ rfl rfl rfl) (fun v1 m1 hg1 => ?_)
  obtain ⟨⟨y1, rfl⟩, hg1⟩ := hg1
  refine fl_Tq.stp (pw_cod lx_k1653) rfl (fl_bo rfl) rfl ?_
  refine fl_Tq.stp (pw_cod lx_k1654) rfl (fl_bo rfl) rfl ?_
  refine lx_arg (i := i) (jn := 1) (pw_cod lx_k1655) (pw_cod lx_k1656) (pw_cod lx_k1657) (pw_cod lx_k1658) (pw_cod lx_k1659) rfl (fl_bo rfl) hL (by omega) ?_
  refine lx_arg (i := i) (jn := 2) (pw_cod lx_k1660) (pw_cod lx_k1661) (pw_cod lx_k1662) (pw_cod lx_k1663) (pw_cod lx_k1664) rfl (fl_bo rfl) hL (by omega) ?_
  refine lx_callG (as_ := [at_this, .inl (xs (i + 1)), .inl (xs (i + 2))]) (rest := []) (pw_cod lx_k1665) (pw_cll lx_l228) rfl (fl_bo rfl) rfl rfl (t2_qcall (hall _ at_c290_in) rfl hg1 ⟨at_k277 _, lx_ki _, lx_ki _, True.intro⟩ rfl rfl rfl) (fun v2 m2 hg2 => ?_)
  obtain ⟨⟨y2, rfl⟩, hg2⟩ := hg2
  refine fl_Tq.stp (pw_cod lx_k1668) rfl (fl_bo rfl) rfl ?_
  refine fl_Tq.stp (pw_cod lx_k1669) rfl (fl_bo rfl) rfl ?_
  exact kk m2 hg2
theorem ly_c52 {L : Nat} {xs : Nat → Int32} {m : fl_M} {Q : Option fl_V → fl_M → Prop} {i : Nat} (hall : ∀ c ∈ at_CM ++ at_CA, at_Valid at_XI (pw_P L xs) c) (hL : L ≤ 3072) (hi : i + 6 ≤ L) (hg : t2_Z m) (kk : ∀ m' : fl_M, t2_Z m' → fl_Tq (pw_P L xs) 0 2030 (lx_lv i) [] m' Q) : fl_Tq (pw_P L xs) 0 1672 (lx_lv i) [] m Q := by
  obtain ⟨f, l⟩ := m
  refine fl_Tq.stp (pw_cod lx_k1672) rfl (fl_bo rfl) rfl ?_
  refine lx_arg (i := i) (jn := 1) (pw_cod lx_k1673) (pw_cod lx_k1674) (pw_cod lx_k1675) (pw_cod lx_k1676) (pw_cod lx_k1677) rfl (fl_bo rfl) hL (by omega) ?_
  refine lx_callG (as_ := [lx_x, .inl (xs (i + 1))]) (rest := []) (pw_cod lx_k1678) (pw_cll lx_l229) rfl (fl_bo rfl) rfl rfl (t2_qcall (hall _ at_c155_in) rfl hg ⟨lx_kx _, lx_ki _, True.intro⟩ rfl rfl rfl) (fun v1 m1 hg1 => ?_)
  obtain ⟨⟨y1, rfl⟩, hg1⟩ := hg1
  refine fl_Tq.stp (pw_cod lx_k1681) rfl (fl_bo rfl) rfl ?_
  refine fl_Tq.stp (pw_cod lx_k1682) rfl (fl_bo rfl) rfl ?_
  refine lx_arg (i := i) (jn := 1) (pw_cod lx_k1683) (pw_cod lx_k1684) (pw_cod lx_k1685) (pw_cod lx_k1686) (pw_cod lx_k1687) rfl (fl_bo rfl) hL (by omega) ?_
  refine lx_callG (as_ := [at_this, .inl (xs (i + 1))]) (rest := []) (pw_cod lx_k1688) (pw_cll lx_l232) rfl (fl_bo rfl) rfl rfl (t2_qcall (hall _ at_c291_in) rfl hg1 ⟨at_k277 _, lx_ki _, True.intro⟩ rfl rfl rfl) (fun v2 m2 hg2 => ?_)
  obtain ⟨⟨y2, rfl⟩, hg2⟩ := hg2
  refine fl_Tq.stp (pw_cod lx_k1691) rfl (fl_bo rfl) rfl ?_
  refine fl_Tq.stp (pw_cod lx_k1692) rfl (fl_bo rfl) rfl ?_
  exact kk m2 hg2
theorem ly_c53 {L : Nat} {xs : Nat → Int32} {m : fl_M} {Q : Option fl_V → fl_M → Prop} {i : Nat} (hall : ∀ c ∈ at_CM ++ at_CA, at_Valid at_XI (pw_P L xs) c) (hL : L ≤ 3072) (hi : i + 6 ≤ L) (hg : t2_Z m) (kk : ∀ m' : fl_M, t2_Z m' → fl_Tq (pw_P L xs) 0 2030 (lx_lv i) [] m' Q) : fl_Tq (pw_P L xs) 0 1695 (lx_lv i) [] m Q := by
  obtain ⟨f, l⟩ := m
  refine fl_Tq.stp (pw_cod lx_k1695) rfl (fl_bo rfl) rfl ?_
  refine lx_callG (as_ := [lx_x]) (rest := []) (pw_cod lx_k1696) (pw_cll lx_l233) rfl (fl_bo rfl) rfl rfl (t2_qcallJ (hall _ at_c156_in) rfl hg ⟨lx_kx _, True.intro⟩ rfl rfl rfl) (fun v1 m1 hg1 => ?_)
  obtain ⟨⟨y1, rfl⟩, hg1⟩ := hg1
  refine fl_Tq.stp (pw_cod lx_k1699) rfl (fl_bo rfl) rfl ?_
  refine fl_Tq.stp (pw_cod lx_k1700) rfl (fl_bo rfl) rfl ?_
  refine lx_callG (as_ := [at_this]) (rest := []) (pw_cod lx_k1701) (pw_cll lx_l237) rfl (fl_bo rfl) rfl rfl (t2_qcallJ (hall _ at_c292_in) rfl hg1 ⟨at_k277 _, True.intro⟩ rfl rfl rfl) (fun v2 m2 hg2 => ?_)
  obtain ⟨⟨y2, rfl⟩, hg2⟩ := hg2
  refine fl_Tq.stp (pw_cod lx_k1704) rfl (fl_bo rfl) rfl ?_
  refine fl_Tq.stp (pw_cod lx_k1705) rfl (fl_bo rfl) rfl ?_
  exact kk m2 hg2
theorem ly_c54 {L : Nat} {xs : Nat → Int32} {m : fl_M} {Q : Option fl_V → fl_M → Prop} {i : Nat} (hall : ∀ c ∈ at_CM ++ at_CA, at_Valid at_XI (pw_P L xs) c) (hL : L ≤ 3072) (hi : i + 6 ≤ L) (hg : t2_Z m) (kk : ∀ m' : fl_M, t2_Z m' → fl_Tq (pw_P L xs) 0 2030 (lx_lv i) [] m' Q) : fl_Tq (pw_P L xs) 0 1708 (lx_lv i) [] m Q := by
  obtain ⟨f, l⟩ := m
  refine fl_Tq.stp (pw_cod lx_k1708) rfl (fl_bo rfl) rfl ?_
  refine lx_callG (as_ := [lx_x]) (rest := []) (pw_cod lx_k1709) (pw_cll lx_l238) rfl (fl_bo rfl) rfl rfl (t2_qcall (hall _ at_c157_in) rfl hg ⟨lx_kx _, True.intro⟩ rfl rfl rfl) (fun v1 m1 hg1 => ?_)
  obtain ⟨⟨y1, rfl⟩, hg1⟩ := hg1
  refine fl_Tq.stp (pw_cod lx_k1712) rfl (fl_bo rfl) rfl ?_
  refine fl_Tq.stp (pw_cod lx_k1713) rfl (fl_bo rfl) rfl ?_
  refine lx_callG (as_ := [at_this]) (rest := []) (pw_cod lx_k1714) (pw_cll lx_l241) rfl (fl_bo rfl) rfl rfl (t2_qcall (hall _ at_c293_in) rfl hg1 ⟨at_k277 _, True.intro⟩ rfl rfl rfl) (fun v2 m2 hg2 => ?_)
  obtain ⟨⟨y2, rfl⟩, hg2⟩ := hg2
  refine fl_Tq.stp (pw_cod lx_k1717) rfl (fl_bo rfl) rfl ?_
  refine fl_Tq.stp (pw_cod lx_k1718) rfl (fl_bo rfl) rfl ?_
  exact kk m2 hg2
theorem ly_c55 {L : Nat} {xs : Nat → Int32} {m : fl_M} {Q : Option fl_V → fl_M → Prop} {i : Nat} (hall : ∀ c ∈ at_CM ++ at_CA, at_Valid at_XI (pw_P L xs) c) (hL : L ≤ 3072) (hi : i + 6 ≤ L) (hg : t2_Z m) (kk : ∀ m' : fl_M, t2_Z m' → fl_Tq (pw_P L xs) 0 2030 (lx_lv i) [] m' Q) : fl_Tq (pw_P L xs) 0 1721 (lx_lv i) [] m Q := by
  obtain ⟨f, l⟩ := m
  refine fl_Tq.stp (pw_cod lx_k1721) rfl (fl_bo rfl) rfl ?_
  refine lx_arg (i := i) (jn := 1) (pw_cod lx_k1722) (pw_cod lx_k1723) (pw_cod lx_k1724) (pw_cod lx_k1725) (pw_cod lx_k1726) rfl (fl_bo rfl) hL (by omega) ?_
  refine lx_arg (i := i) (jn := 2) (pw_cod lx_k1727) (pw_cod lx_k1728) (pw_cod lx_k1729) (pw_cod lx_k1730) (pw_cod lx_k1731) rfl (fl_bo rfl) hL (by omega) ?_
  refine lx_callG (as_ := [lx_x, .inl (xs (i + 1)), .inl (xs (i + 2))]) (rest := []) (pw_cod lx_k1732) (pw_cll lx_l242) rfl (fl_bo rfl) rfl rfl (t2_qcall (hall _ at_c159_in) rfl hg ⟨lx_kx _, lx_ki _, lx_ki _, True.intro⟩ rfl rfl rfl) (fun v1 m1 hg1 => ?_)
  obtain ⟨⟨y1, rfl⟩, hg1⟩ := hg1
  refine fl_Tq.stp (pw_cod lx_k1735) rfl (fl_bo rfl) rfl ?_
  refine fl_Tq.stp (pw_cod lx_k1736) rfl (fl_bo rfl) rfl ?_
  refine lx_arg (i := i) (jn := 1) (pw_cod lx_k1737) (pw_cod lx_k1738) (pw_cod lx_k1739) (pw_cod lx_k1740) (pw_cod lx_k1741) rfl (fl_bo rfl) hL (by omega) ?_
  refine lx_arg (i := i) (jn := 2) (pw_cod lx_k1742) (pw_cod lx_k1743) (pw_cod lx_k1744) (pw_cod lx_k1745) (pw_cod lx_k1746) rfl (fl_bo rfl) hL (by omega) ?_
  obtain ⟨f1, l1⟩ := m1
  refine lx_callG (as_ := [at_this, .inl (xs (i + 1)), .inl (xs (i + 2))]) (rest := []) (pw_cod lx_k1747) (pw_cll lx_l245) rfl (fl_bo rfl) rfl rfl (t2_acallR (hall _ at_c310_in) rfl hg1 ⟨at_k277 _, lx_ki _, lx_ki _, True.intro⟩ rfl rfl rfl rfl (t2_z310 hall hg1.1)) (fun v2 m2 hg2 => ?_)
  obtain ⟨⟨y2, rfl⟩, hg2⟩ := hg2
  refine fl_Tq.stp (pw_cod lx_k1750) rfl (fl_bo rfl) rfl ?_
  refine fl_Tq.stp (pw_cod lx_k1751) rfl (fl_bo rfl) rfl ?_
  exact kk m2 hg2
theorem ly_c56 {L : Nat} {xs : Nat → Int32} {m : fl_M} {Q : Option fl_V → fl_M → Prop} {i : Nat} (hall : ∀ c ∈ at_CM ++ at_CA, at_Valid at_XI (pw_P L xs) c) (hL : L ≤ 3072) (hi : i + 6 ≤ L) (hg : t2_Z m) (kk : ∀ m' : fl_M, t2_Z m' → fl_Tq (pw_P L xs) 0 2030 (lx_lv i) [] m' Q) : fl_Tq (pw_P L xs) 0 1754 (lx_lv i) [] m Q := by
  obtain ⟨f, l⟩ := m
  refine fl_Tq.stp (pw_cod lx_k1754) rfl (fl_bo rfl) rfl ?_
  refine lx_arg (i := i) (jn := 1) (pw_cod lx_k1755) (pw_cod lx_k1756) (pw_cod lx_k1757) (pw_cod lx_k1758) (pw_cod lx_k1759) rfl (fl_bo rfl) hL (by omega) ?_
  refine lx_arg (i := i) (jn := 2) (pw_cod lx_k1760) (pw_cod lx_k1761) (pw_cod lx_k1762) (pw_cod lx_k1763) (pw_cod lx_k1764) rfl (fl_bo rfl) hL (by omega) ?_
  refine lx_arg (i := i) (jn := 3) (pw_cod lx_k1765) (pw_cod lx_k1766) (pw_cod lx_k1767) (pw_cod lx_k1768) (pw_cod lx_k1769) rfl (fl_bo rfl) hL (by omega) ?_
  refine lx_callG (as_ := [lx_x, .inl (xs (i + 1)), .inl (xs (i + 2)), .inl (xs (i + 3))]) (rest := []) (pw_cod lx_k1770) (pw_cll lx_l246) rfl (fl_bo rfl) rfl rfl (t2_qcall (hall _ at_c160_in) rfl hg ⟨lx_kx _, lx_ki _, lx_ki _, lx_ki _, True.intro⟩ rfl rfl rfl) (fun v1 m1 hg1 => ?_)
  obtain ⟨⟨y1, rfl⟩, hg1⟩ := hg1
  refine fl_Tq.stp (pw_cod lx_k1773) rfl (fl_bo rfl) rfl ?_
  refine fl_Tq.stp (pw_cod lx_k1774) rfl (fl_bo rfl) rfl ?_
  refine lx_arg (i := i) (jn := 1) (pw_cod lx_k1775) (pw_cod lx_k1776) (pw_cod lx_k1777) (pw_cod lx_k1778) (pw_cod lx_k1779) rfl (fl_bo rfl) hL (by omega) ?_
  refine lx_arg (i := i) (jn := 2) (pw_cod lx_k1780) (pw_cod lx_k1781) (pw_cod lx_k1782) (pw_cod lx_k1783) (pw_cod lx_k1784) rfl (fl_bo rfl) hL (by omega) ?_
  refine lx_arg (i := i) (jn := 3) (pw_cod lx_k1785) (pw_cod lx_k1786) (pw_cod lx_k1787) (pw_cod lx_k1788) (pw_cod lx_k1789) rfl (fl_bo rfl) hL (by omega) ?_
  obtain ⟨f1, l1⟩ := m1
  refine lx_callG (as_ := [at_this, .inl (xs (i + 1)), .inl (xs (i + 2)), .inl (xs (i + 3))]) (rest := []) (pw_cod lx_k1790) (pw_cll lx_l249) rfl (fl_bo rfl) rfl rfl (t2_acallR (hall _ at_c311_in) rfl hg1 ⟨at_k277 _, lx_ki _, lx_ki _, lx_ki _, True.intro⟩ rfl rfl rfl rfl (t2_z311 hall hg1.1)) (fun v2 m2 hg2 => ?_)
  obtain ⟨⟨y2, rfl⟩, hg2⟩ := hg2
  refine fl_Tq.stp (pw_cod lx_k1793) rfl (fl_bo rfl) rfl ?_
  refine fl_Tq.stp (pw_cod lx_k1794) rfl (fl_bo rfl) rfl ?_
  exact kk m2 hg2
theorem ly_c57 {L : Nat} {xs : Nat → Int32} {m : fl_M} {Q : Option fl_V → fl_M → Prop} {i : Nat} (hall : ∀ c ∈ at_CM ++ at_CA, at_Valid at_XI (pw_P L xs) c) (hL : L ≤ 3072) (hi : i + 6 ≤ L) (hg : t2_Z m) (kk : ∀ m' : fl_M, t2_Z m' → fl_Tq (pw_P L xs) 0 2030 (lx_lv i) [] m' Q) : fl_Tq (pw_P L xs) 0 1797 (lx_lv i) [] m Q := by
  obtain ⟨f, l⟩ := m
  refine fl_Tq.stp (pw_cod lx_k1797) rfl (fl_bo rfl) rfl ?_
  refine lx_arg (i := i) (jn := 1) (pw_cod lx_k1798) (pw_cod lx_k1799) (pw_cod lx_k1800) (pw_cod lx_k1801) (pw_cod lx_k1802) rfl (fl_bo rfl) hL (by omega) ?_
  refine lx_callG (as_ := [lx_x, .inl (xs (i + 1))]) (rest := []) (pw_cod lx_k1803) (pw_cll lx_l250) rfl (fl_bo rfl) rfl rfl (t2_qcall (hall _ at_c161_in) rfl hg ⟨lx_kx _, lx_ki _, True.intro⟩ rfl rfl rfl) (fun v1 m1 hg1 => ?_)
  obtain ⟨⟨y1, rfl⟩, hg1⟩ := hg1
  refine fl_Tq.stp (pw_cod lx_k1806) rfl (fl_bo rfl) rfl ?_
  refine fl_Tq.stp (pw_cod lx_k1807) rfl (fl_bo rfl) rfl ?_
  refine lx_arg (i := i) (jn := 1) (pw_cod lx_k1808) (pw_cod lx_k1809) (pw_cod lx_k1810) (pw_cod lx_k1811) (pw_cod lx_k1812) rfl (fl_bo rfl) hL (by omega) ?_
  obtain ⟨f1, l1⟩ := m1
  refine lx_callG (as_ := [at_this, .inl (xs (i + 1))]) (rest := []) (pw_cod lx_k1813) (pw_cll lx_l253) rfl (fl_bo rfl) rfl rfl (t2_acallR (hall _ at_c312_in) rfl hg1 ⟨at_k277 _, lx_ki _, True.intro⟩ rfl rfl rfl rfl (t2_z312 hall hg1.1)) (fun v2 m2 hg2 => ?_)
  obtain ⟨⟨y2, rfl⟩, hg2⟩ := hg2
  refine fl_Tq.stp (pw_cod lx_k1816) rfl (fl_bo rfl) rfl ?_
  refine fl_Tq.stp (pw_cod lx_k1817) rfl (fl_bo rfl) rfl ?_
  exact kk m2 hg2
theorem ly_c58 {L : Nat} {xs : Nat → Int32} {m : fl_M} {Q : Option fl_V → fl_M → Prop} {i : Nat} (hall : ∀ c ∈ at_CM ++ at_CA, at_Valid at_XI (pw_P L xs) c) (hL : L ≤ 3072) (hi : i + 6 ≤ L) (hg : t2_Z m) (kk : ∀ m' : fl_M, t2_Z m' → fl_Tq (pw_P L xs) 0 2030 (lx_lv i) [] m' Q) : fl_Tq (pw_P L xs) 0 1820 (lx_lv i) [] m Q := by
  obtain ⟨f, l⟩ := m
  refine fl_Tq.stp (pw_cod lx_k1820) rfl (fl_bo rfl) rfl ?_
  refine lx_callG (as_ := [lx_x]) (rest := []) (pw_cod lx_k1821) (pw_cll lx_l254) rfl (fl_bo rfl) rfl rfl (t2_qcall (hall _ at_c162_in) rfl hg ⟨lx_kx _, True.intro⟩ rfl rfl rfl) (fun v1 m1 hg1 => ?_)
  obtain ⟨⟨y1, rfl⟩, hg1⟩ := hg1
  refine fl_Tq.stp (pw_cod lx_k1824) rfl (fl_bo rfl) rfl ?_
  refine fl_Tq.stp (pw_cod lx_k1825) rfl (fl_bo rfl) rfl ?_
  obtain ⟨f1, l1⟩ := m1
  refine lx_callG (as_ := [at_this]) (rest := []) (pw_cod lx_k1826) (pw_cll lx_l257) rfl (fl_bo rfl) rfl rfl (t2_acallR (hall _ at_c313_in) rfl hg1 ⟨at_k277 _, True.intro⟩ rfl rfl rfl rfl (t2_z313 hall hg1.1)) (fun v2 m2 hg2 => ?_)
  obtain ⟨⟨y2, rfl⟩, hg2⟩ := hg2
  refine fl_Tq.stp (pw_cod lx_k1829) rfl (fl_bo rfl) rfl ?_
  refine fl_Tq.stp (pw_cod lx_k1830) rfl (fl_bo rfl) rfl ?_
  exact kk m2 hg2
theorem ly_c59 {L : Nat} {xs : Nat → Int32} {m : fl_M} {Q : Option fl_V → fl_M → Prop} {i : Nat} (hall : ∀ c ∈ at_CM ++ at_CA, at_Valid at_XI (pw_P L xs) c) (hL : L ≤ 3072) (hi : i + 6 ≤ L) (hg : t2_Z m) (kk : ∀ m' : fl_M, t2_Z m' → fl_Tq (pw_P L xs) 0 2030 (lx_lv i) [] m' Q) : fl_Tq (pw_P L xs) 0 1833 (lx_lv i) [] m Q := by
  obtain ⟨f, l⟩ := m
  refine fl_Tq.stp (pw_cod lx_k1833) rfl (fl_bo rfl) rfl ?_
  refine lx_arg (i := i) (jn := 1) (pw_cod lx_k1834) (pw_cod lx_k1835) (pw_cod lx_k1836) (pw_cod lx_k1837) (pw_cod lx_k1838) rfl (fl_bo rfl) hL (by omega) ?_
  refine lx_callG (as_ := [lx_x, .inl (xs (i + 1))]) (rest := []) (pw_cod lx_k1839) (pw_cll lx_l258) rfl (fl_bo rfl) rfl rfl (t2_qcall (hall _ at_c163_in) rfl hg ⟨lx_kx _, lx_ki _, True.intro⟩ rfl rfl rfl) (fun v1 m1 hg1 => ?_)
  obtain ⟨⟨y1, rfl⟩, hg1⟩ := hg1
  refine fl_Tq.stp (pw_cod lx_k1842) rfl (fl_bo rfl) rfl ?_
  refine fl_Tq.stp (pw_cod lx_k1843) rfl (fl_bo rfl) rfl ?_
  refine lx_arg (i := i) (jn := 1) (pw_cod lx_k1844) (pw_cod lx_k1845) (pw_cod lx_k1846) (pw_cod lx_k1847) (pw_cod lx_k1848) rfl (fl_bo rfl) hL (by omega) ?_
  obtain ⟨f1, l1⟩ := m1
  refine lx_callG (as_ := [at_this, .inl (xs (i + 1))]) (rest := []) (pw_cod lx_k1849) (pw_cll lx_l261) rfl (fl_bo rfl) rfl rfl (t2_acallR (hall _ at_c314_in) rfl hg1 ⟨at_k277 _, lx_ki _, True.intro⟩ rfl rfl rfl rfl (t2_z314 hall hg1.1)) (fun v2 m2 hg2 => ?_)
  obtain ⟨⟨y2, rfl⟩, hg2⟩ := hg2
  refine fl_Tq.stp (pw_cod lx_k1852) rfl (fl_bo rfl) rfl ?_
  refine fl_Tq.stp (pw_cod lx_k1853) rfl (fl_bo rfl) rfl ?_
  exact kk m2 hg2
theorem ly_c60 {L : Nat} {xs : Nat → Int32} {m : fl_M} {Q : Option fl_V → fl_M → Prop} {i : Nat} (hall : ∀ c ∈ at_CM ++ at_CA, at_Valid at_XI (pw_P L xs) c) (hL : L ≤ 3072) (hi : i + 6 ≤ L) (hg : t2_Z m) (kk : ∀ m' : fl_M, t2_Z m' → fl_Tq (pw_P L xs) 0 2030 (lx_lv i) [] m' Q) : fl_Tq (pw_P L xs) 0 1856 (lx_lv i) [] m Q := by
  obtain ⟨f, l⟩ := m
  refine fl_Tq.stp (pw_cod lx_k1856) rfl (fl_bo rfl) rfl ?_
  refine lx_arg (i := i) (jn := 1) (pw_cod lx_k1857) (pw_cod lx_k1858) (pw_cod lx_k1859) (pw_cod lx_k1860) (pw_cod lx_k1861) rfl (fl_bo rfl) hL (by omega) ?_
  refine lx_arg (i := i) (jn := 2) (pw_cod lx_k1862) (pw_cod lx_k1863) (pw_cod lx_k1864) (pw_cod lx_k1865) (pw_cod lx_k1866) rfl (fl_bo rfl) hL (by omega) ?_
  refine lx_callG (as_ := [lx_x, .inl (xs (i + 1)), .inl (xs (i + 2))]) (rest := []) (pw_cod lx_k1867) (pw_cll lx_l262) rfl (fl_bo rfl) rfl rfl (t2_qcall (hall _ at_c164_in) rfl hg ⟨lx_kx _, lx_ki _, lx_ki _, True.intro⟩ rfl rfl rfl) (fun v1 m1 hg1 => ?_)
  obtain ⟨⟨y1, rfl⟩, hg1⟩ := hg1
  refine fl_Tq.stp (pw_cod lx_k1870) rfl (fl_bo rfl) rfl ?_
  refine fl_Tq.stp (pw_cod lx_k1871) rfl (fl_bo rfl) rfl ?_
  refine lx_arg (i := i) (jn := 1) (pw_cod lx_k1872) (pw_cod lx_k1873) (pw_cod lx_k1874) (pw_cod lx_k1875) (pw_cod lx_k1876) rfl (fl_bo rfl) hL (by omega) ?_
  refine lx_arg (i := i) (jn := 2) (pw_cod lx_k1877) (pw_cod lx_k1878) (pw_cod lx_k1879) (pw_cod lx_k1880) (pw_cod lx_k1881) rfl (fl_bo rfl) hL (by omega) ?_
  obtain ⟨f1, l1⟩ := m1
  refine lx_callG (as_ := [at_this, .inl (xs (i + 1)), .inl (xs (i + 2))]) (rest := []) (pw_cod lx_k1882) (pw_cll lx_l265) rfl (fl_bo rfl) rfl rfl (t2_acall (hall _ at_c316_in) rfl hg1 ⟨at_k277 _, lx_ki _, lx_ki _, True.intro⟩ rfl rfl rfl (t2_z316 hall hg1.1 hg1.2.2.2.2)) (fun v2 m2 hg2 => ?_)
  obtain ⟨⟨y2, rfl⟩, hg2⟩ := hg2
  refine fl_Tq.stp (pw_cod lx_k1885) rfl (fl_bo rfl) rfl ?_
  refine fl_Tq.stp (pw_cod lx_k1886) rfl (fl_bo rfl) rfl ?_
  exact kk m2 hg2
theorem ly_c61 {L : Nat} {xs : Nat → Int32} {m : fl_M} {Q : Option fl_V → fl_M → Prop} {i : Nat} (hall : ∀ c ∈ at_CM ++ at_CA, at_Valid at_XI (pw_P L xs) c) (hL : L ≤ 3072) (hi : i + 6 ≤ L) (hg : t2_Z m) (kk : ∀ m' : fl_M, t2_Z m' → fl_Tq (pw_P L xs) 0 2030 (lx_lv i) [] m' Q) : fl_Tq (pw_P L xs) 0 1889 (lx_lv i) [] m Q := by
  obtain ⟨f, l⟩ := m
  refine fl_Tq.stp (pw_cod lx_k1889) rfl (fl_bo rfl) rfl ?_
  refine lx_arg (i := i) (jn := 1) (pw_cod lx_k1890) (pw_cod lx_k1891) (pw_cod lx_k1892) (pw_cod lx_k1893) (pw_cod lx_k1894) rfl (fl_bo rfl) hL (by omega) ?_
  refine lx_arg (i := i) (jn := 2) (pw_cod lx_k1895) (pw_cod lx_k1896) (pw_cod lx_k1897) (pw_cod lx_k1898) (pw_cod lx_k1899) rfl (fl_bo rfl) hL (by omega) ?_
  refine lx_callG (as_ := [lx_x, .inl (xs (i + 1)), .inl (xs (i + 2))]) (rest := []) (pw_cod lx_k1900) (pw_cll lx_l266) rfl (fl_bo rfl) rfl rfl (t2_qcall (hall _ at_c165_in) rfl hg ⟨lx_kx _, lx_ki _, lx_ki _, True.intro⟩ rfl rfl rfl) (fun v1 m1 hg1 => ?_)
  obtain ⟨⟨y1, rfl⟩, hg1⟩ := hg1
  refine fl_Tq.stp (pw_cod lx_k1903) rfl (fl_bo rfl) rfl ?_
  refine fl_Tq.stp (pw_cod lx_k1904) rfl (fl_bo rfl) rfl ?_
  refine lx_arg (i := i) (jn := 1) (pw_cod lx_k1905) (pw_cod lx_k1906) (pw_cod lx_k1907) (pw_cod lx_k1908) (pw_cod lx_k1909) rfl (fl_bo rfl) hL (by omega) ?_
  refine lx_arg (i := i) (jn := 2) (pw_cod lx_k1910) (pw_cod lx_k1911) (pw_cod lx_k1912) (pw_cod lx_k1913) (pw_cod lx_k1914) rfl (fl_bo rfl) hL (by omega) ?_
  obtain ⟨f1, l1⟩ := m1
  refine lx_callG (as_ := [at_this, .inl (xs (i + 1)), .inl (xs (i + 2))]) (rest := []) (pw_cod lx_k1915) (pw_cll lx_l269) rfl (fl_bo rfl) rfl rfl (t2_acallR (hall _ at_c319_in) rfl hg1 ⟨at_k277 _, lx_ki _, lx_ki _, True.intro⟩ rfl rfl rfl rfl (t2_z319 hall hg1.1)) (fun v2 m2 hg2 => ?_)
  obtain ⟨⟨y2, rfl⟩, hg2⟩ := hg2
  refine fl_Tq.stp (pw_cod lx_k1918) rfl (fl_bo rfl) rfl ?_
  refine fl_Tq.stp (pw_cod lx_k1919) rfl (fl_bo rfl) rfl ?_
  exact kk m2 hg2
theorem ly_c62 {L : Nat} {xs : Nat → Int32} {m : fl_M} {Q : Option fl_V → fl_M → Prop} {i : Nat} (hall : ∀ c ∈ at_CM ++ at_CA, at_Valid at_XI (pw_P L xs) c) (hL : L ≤ 3072) (hi : i + 6 ≤ L) (hg : t2_Z m) (kk : ∀ m' : fl_M, t2_Z m' → fl_Tq (pw_P L xs) 0 2030 (lx_lv i) [] m' Q) : fl_Tq (pw_P L xs) 0 1922 (lx_lv i) [] m Q := by
  obtain ⟨f, l⟩ := m
  refine fl_Tq.stp (pw_cod lx_k1922) rfl (fl_bo rfl) rfl ?_
  refine lx_arg (i := i) (jn := 1) (pw_cod lx_k1923) (pw_cod lx_k1924) (pw_cod lx_k1925) (pw_cod lx_k1926) (pw_cod lx_k1927) rfl (fl_bo rfl) hL (by omega) ?_
  refine lx_callG (as_ := [lx_x, .inl (xs (i + 1))]) (rest := []) (pw_cod lx_k1928) (pw_cll lx_l270) rfl (fl_bo rfl) rfl rfl (t2_qcall (hall _ at_c166_in) rfl hg ⟨lx_kx _, lx_ki _, True.intro⟩ rfl rfl rfl) (fun v1 m1 hg1 => ?_)
  obtain ⟨⟨y1, rfl⟩, hg1⟩ := hg1
  refine fl_Tq.stp (pw_cod lx_k1931) rfl (fl_bo rfl) rfl ?_
  refine fl_Tq.stp (pw_cod lx_k1932) rfl (fl_bo rfl) rfl ?_
  refine lx_arg (i := i) (jn := 1) (pw_cod lx_k1933) (pw_cod lx_k1934) (pw_cod lx_k1935) (pw_cod lx_k1936) (pw_cod lx_k1937) rfl (fl_bo rfl) hL (by omega) ?_
  obtain ⟨f1, l1⟩ := m1
  refine lx_callG (as_ := [at_this, .inl (xs (i + 1))]) (rest := []) (pw_cod lx_k1938) (pw_cll lx_l273) rfl (fl_bo rfl) rfl rfl (t2_acall (hall _ at_c317_in) rfl hg1 ⟨at_k277 _, lx_ki _, True.intro⟩ rfl rfl rfl (t2_z317 hall hg1.1 hg1.2.2.2.2)) (fun v2 m2 hg2 => ?_)
  obtain ⟨⟨y2, rfl⟩, hg2⟩ := hg2
  refine fl_Tq.stp (pw_cod lx_k1941) rfl (fl_bo rfl) rfl ?_
  refine fl_Tq.stp (pw_cod lx_k1942) rfl (fl_bo rfl) rfl ?_
  exact kk m2 hg2
theorem ly_c63 {L : Nat} {xs : Nat → Int32} {m : fl_M} {Q : Option fl_V → fl_M → Prop} {i : Nat} (hall : ∀ c ∈ at_CM ++ at_CA, at_Valid at_XI (pw_P L xs) c) (hL : L ≤ 3072) (hi : i + 6 ≤ L) (hg : t2_Z m) (kk : ∀ m' : fl_M, t2_Z m' → fl_Tq (pw_P L xs) 0 2030 (lx_lv i) [] m' Q) : fl_Tq (pw_P L xs) 0 1945 (lx_lv i) [] m Q := by
  obtain ⟨f, l⟩ := m
  refine fl_Tq.stp (pw_cod lx_k1945) rfl (fl_bo rfl) rfl ?_
  refine lx_arg (i := i) (jn := 1) (pw_cod lx_k1946) (pw_cod lx_k1947) (pw_cod lx_k1948) (pw_cod lx_k1949) (pw_cod lx_k1950) rfl (fl_bo rfl) hL (by omega) ?_
  refine lx_callG (as_ := [lx_x, .inl (xs (i + 1))]) (rest := []) (pw_cod lx_k1951) (pw_cll lx_l274) rfl (fl_bo rfl) rfl rfl (t2_qcall (hall _ at_c167_in) rfl hg ⟨lx_kx _, lx_ki _, True.intro⟩ rfl rfl rfl) (fun v1 m1 hg1 => ?_)
  obtain ⟨⟨y1, rfl⟩, hg1⟩ := hg1
  refine fl_Tq.stp (pw_cod lx_k1954) rfl (fl_bo rfl) rfl ?_
  refine fl_Tq.stp (pw_cod lx_k1955) rfl (fl_bo rfl) rfl ?_
  refine lx_arg (i := i) (jn := 1) (pw_cod lx_k1956) (pw_cod lx_k1957) (pw_cod lx_k1958) (pw_cod lx_k1959) (pw_cod lx_k1960) rfl (fl_bo rfl) hL (by omega) ?_
  obtain ⟨f1, l1⟩ := m1
  refine lx_callG (as_ := [at_this, .inl (xs (i + 1))]) (rest := []) (pw_cod lx_k1961) (pw_cll lx_l277) rfl (fl_bo rfl) rfl rfl (t2_acallR (hall _ at_c321_in) rfl hg1 ⟨at_k277 _, lx_ki _, True.intro⟩ rfl rfl rfl rfl (t2_z321 hall hg1.1)) (fun v2 m2 hg2 => ?_)
  obtain ⟨⟨y2, rfl⟩, hg2⟩ := hg2
  refine fl_Tq.stp (pw_cod lx_k1964) rfl (fl_bo rfl) rfl ?_
  refine fl_Tq.stp (pw_cod lx_k1965) rfl (fl_bo rfl) rfl ?_
  exact kk m2 hg2
theorem ly_c64 {L : Nat} {xs : Nat → Int32} {m : fl_M} {Q : Option fl_V → fl_M → Prop} {i : Nat} (hall : ∀ c ∈ at_CM ++ at_CA, at_Valid at_XI (pw_P L xs) c) (hL : L ≤ 3072) (hi : i + 6 ≤ L) (hg : t2_Z m) (kk : ∀ m' : fl_M, t2_Z m' → fl_Tq (pw_P L xs) 0 2030 (lx_lv i) [] m' Q) : fl_Tq (pw_P L xs) 0 1968 (lx_lv i) [] m Q := by
  obtain ⟨f, l⟩ := m
  refine fl_Tq.stp (pw_cod lx_k1968) rfl (fl_bo rfl) rfl ?_
  refine lx_arg (i := i) (jn := 1) (pw_cod lx_k1969) (pw_cod lx_k1970) (pw_cod lx_k1971) (pw_cod lx_k1972) (pw_cod lx_k1973) rfl (fl_bo rfl) hL (by omega) ?_
  refine lx_callG (as_ := [lx_x, .inl (xs (i + 1))]) (rest := []) (pw_cod lx_k1974) (pw_cll lx_l278) rfl (fl_bo rfl) rfl rfl (t2_qcall (hall _ at_c168_in) rfl hg ⟨lx_kx _, lx_ki _, True.intro⟩ rfl rfl rfl) (fun v1 m1 hg1 => ?_)
  obtain ⟨⟨y1, rfl⟩, hg1⟩ := hg1
  refine fl_Tq.stp (pw_cod lx_k1977) rfl (fl_bo rfl) rfl ?_
  refine fl_Tq.stp (pw_cod lx_k1978) rfl (fl_bo rfl) rfl ?_
  refine lx_arg (i := i) (jn := 1) (pw_cod lx_k1979) (pw_cod lx_k1980) (pw_cod lx_k1981) (pw_cod lx_k1982) (pw_cod lx_k1983) rfl (fl_bo rfl) hL (by omega) ?_
  obtain ⟨f1, l1⟩ := m1
  refine lx_callG (as_ := [at_this, .inl (xs (i + 1))]) (rest := []) (pw_cod lx_k1984) (pw_cll lx_l281) rfl (fl_bo rfl) rfl rfl (t2_acallR (hall _ at_c322_in) rfl hg1 ⟨at_k277 _, lx_ki _, True.intro⟩ rfl rfl rfl rfl (t2_z322 hall hg1.1)) (fun v2 m2 hg2 => ?_)
  obtain ⟨⟨y2, rfl⟩, hg2⟩ := hg2
  refine fl_Tq.stp (pw_cod lx_k1987) rfl (fl_bo rfl) rfl ?_
  refine fl_Tq.stp (pw_cod lx_k1988) rfl (fl_bo rfl) rfl ?_
  exact kk m2 hg2
theorem ly_c65 {L : Nat} {xs : Nat → Int32} {m : fl_M} {Q : Option fl_V → fl_M → Prop} {i : Nat} (hall : ∀ c ∈ at_CM ++ at_CA, at_Valid at_XI (pw_P L xs) c) (hL : L ≤ 3072) (hi : i + 6 ≤ L) (hg : t2_Z m) (kk : ∀ m' : fl_M, t2_Z m' → fl_Tq (pw_P L xs) 0 2030 (lx_lv i) [] m' Q) : fl_Tq (pw_P L xs) 0 1991 (lx_lv i) [] m Q := by
  obtain ⟨f, l⟩ := m
  refine fl_Tq.stp (pw_cod lx_k1991) rfl (fl_bo rfl) rfl ?_
  refine lx_callG (as_ := [lx_x]) (rest := []) (pw_cod lx_k1992) (pw_cll lx_l282) rfl (fl_bo rfl) rfl rfl (t2_step (ar := [at_this]) (hall _ at_c120_in) (hall _ at_c323_in) rfl rfl hg ⟨lx_kx _, True.intro⟩ rfl (fun _ => ⟨at_k277 _, True.intro⟩) rfl (t2_image hg)) (fun v1 m1 hg1 => ?_)
  obtain ⟨⟨y1, rfl⟩, hg1⟩ := hg1
  refine fl_Tq.stp (pw_cod lx_k1995) rfl (fl_bo rfl) rfl ?_
  refine fl_Tq.stp (pw_cod lx_k1996) rfl (fl_bo rfl) rfl ?_
  refine lx_callG (as_ := [at_this]) (rest := []) (pw_cod lx_k1997) (pw_cll lx_l285) rfl (fl_bo rfl) rfl rfl hg1 (fun v2 m2 hg2 => ?_)
  obtain ⟨rfl, hg2⟩ := hg2
  refine fl_Tq.stp (pw_cod lx_k2000) rfl (fl_bo rfl) rfl ?_
  refine fl_Tq.stp (pw_cod lx_k2001) rfl (fl_bo rfl) rfl ?_
  exact kk m2 hg2
theorem ly_c66 {L : Nat} {xs : Nat → Int32} {m : fl_M} {Q : Option fl_V → fl_M → Prop} {i : Nat} (hall : ∀ c ∈ at_CM ++ at_CA, at_Valid at_XI (pw_P L xs) c) (hL : L ≤ 3072) (hi : i + 6 ≤ L) (hg : t2_Z m) (kk : ∀ m' : fl_M, t2_Z m' → fl_Tq (pw_P L xs) 0 2030 (lx_lv i) [] m' Q) : fl_Tq (pw_P L xs) 0 2004 (lx_lv i) [] m Q := by
  obtain ⟨f, l⟩ := m
  refine fl_Tq.stp (pw_cod lx_k2004) rfl (fl_bo rfl) rfl ?_
  refine lx_callG (as_ := [lx_x]) (rest := []) (pw_cod lx_k2005) (pw_cll lx_l286) rfl (fl_bo rfl) rfl rfl (t2_step (ar := [at_this]) (hall _ at_c121_in) (hall _ at_c324_in) rfl rfl hg ⟨lx_kx _, True.intro⟩ rfl (fun _ => ⟨at_k277 _, True.intro⟩) rfl (t2_back hg)) (fun v1 m1 hg1 => ?_)
  obtain ⟨⟨y1, rfl⟩, hg1⟩ := hg1
  refine fl_Tq.stp (pw_cod lx_k2008) rfl (fl_bo rfl) rfl ?_
  refine fl_Tq.stp (pw_cod lx_k2009) rfl (fl_bo rfl) rfl ?_
  refine lx_callG (as_ := [at_this]) (rest := []) (pw_cod lx_k2010) (pw_cll lx_l289) rfl (fl_bo rfl) rfl rfl hg1 (fun v2 m2 hg2 => ?_)
  obtain ⟨rfl, hg2⟩ := hg2
  refine fl_Tq.stp (pw_cod lx_k2013) rfl (fl_bo rfl) rfl ?_
  refine fl_Tq.stp (pw_cod lx_k2014) rfl (fl_bo rfl) rfl ?_
  exact kk m2 hg2
theorem ly_c67 {L : Nat} {xs : Nat → Int32} {m : fl_M} {Q : Option fl_V → fl_M → Prop} {i : Nat} (hall : ∀ c ∈ at_CM ++ at_CA, at_Valid at_XI (pw_P L xs) c) (hL : L ≤ 3072) (hi : i + 6 ≤ L) (hg : t2_Z m) (kk : ∀ m' : fl_M, t2_Z m' → fl_Tq (pw_P L xs) 0 2030 (lx_lv i) [] m' Q) : fl_Tq (pw_P L xs) 0 2017 (lx_lv i) [] m Q := by
  obtain ⟨f, l⟩ := m
  refine fl_Tq.stp (pw_cod lx_k2017) rfl (fl_bo rfl) rfl ?_
  refine lx_callG (as_ := [lx_x]) (rest := []) (pw_cod lx_k2018) (pw_cll lx_l290) rfl (fl_bo rfl) rfl rfl (t2_qcall (hall _ at_c158_in) rfl hg ⟨lx_kx _, True.intro⟩ rfl rfl rfl) (fun v1 m1 hg1 => ?_)
  obtain ⟨⟨y1, rfl⟩, hg1⟩ := hg1
  refine fl_Tq.stp (pw_cod lx_k2021) rfl (fl_bo rfl) rfl ?_
  refine fl_Tq.stp (pw_cod lx_k2022) rfl (fl_bo rfl) rfl ?_
  refine lx_callG (as_ := [at_this]) (rest := []) (pw_cod lx_k2023) (pw_cll lx_l293) rfl (fl_bo rfl) rfl rfl (t2_qcall (hall _ at_c325_in) rfl hg1 ⟨at_k277 _, True.intro⟩ rfl rfl rfl) (fun v2 m2 hg2 => ?_)
  obtain ⟨⟨y2, rfl⟩, hg2⟩ := hg2
  refine fl_Tq.stp (pw_cod lx_k2026) rfl (fl_bo rfl) rfl ?_
  refine fl_Tq.stp (pw_cod lx_k2027) rfl (fl_bo rfl) rfl ?_
  exact kk m2 hg2
