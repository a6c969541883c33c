theorem kn_Jx4a65c : ∀ w ∈ u_ws RJx4a65c TJx4a65c 3, w ∈ tables_1 := fun w h => ((goodIn_r (big := tables_1) (u_ws RJx4a65c TJx4a65c 3) [277, 273, 275] (by decide +kernel) (by decide +kernel)) w h).1
theorem kn_X0 : ∀ w ∈ u_ws RX0 TX0 7, w ∈ tables_1 := fun w h => ((goodIn_r (big := tables_1) (u_ws RX0 TX0 7) [313, 315, 317, 319, 321, 323, 325] (by decide +kernel) (by decide +kernel)) w h).1
theorem kn_X1 : ∀ w ∈ u_ws RX1 TX1 14, w ∈ tables_1 := fun w h => ((goodIn_r (big := tables_1) (u_ws RX1 TX1 14) [174, 176, 178, 180, 182, 184, 186, 188, 190, 192, 194, 196, 198, 200] (by decide +kernel) (by decide +kernel)) w h).1
theorem kn_X2 : ∀ w ∈ u_ws RX2 TX2 9, w ∈ tables_1 := fun w h => ((goodIn_r (big := tables_1) (u_ws RX2 TX2 9) [235, 237, 239, 241, 243, 245, 247, 249, 251] (by decide +kernel) (by decide +kernel)) w h).1
theorem kn_X3 : ∀ w ∈ u_ws RX3 TX3 10, w ∈ tables_1 := fun w h => ((goodIn_r (big := tables_1) (u_ws RX3 TX3 10) [112, 114, 116, 118, 120, 122, 124, 126, 128, 130] (by decide +kernel) (by decide +kernel)) w h).1
theorem kn_X4 : ∀ w ∈ u_ws RX4 TX4 7, w ∈ tables_1 := fun w h => ((goodIn_r (big := tables_1) (u_ws RX4 TX4 7) [1078, 1080, 1082, 1084, 1086, 1088, 1090] (by decide +kernel) (by decide +kernel)) w h).1
theorem kn_X5 : ∀ w ∈ u_ws RX5 TX5 11, w ∈ tables_1 := fun w h => ((goodIn_r (big := tables_1) (u_ws RX5 TX5 11) [932, 934, 936, 938, 940, 942, 944, 946, 948, 950, 952] (by decide +kernel) (by decide +kernel)) w h).1
theorem kn_X6 : ∀ w ∈ u_ws RX6 TX6 7, w ∈ tables_1 := fun w h => ((goodIn_r (big := tables_1) (u_ws RX6 TX6 7) [416, 418, 420, 422, 424, 426, 428] (by decide +kernel) (by decide +kernel)) w h).1
theorem kn_X7 : ∀ w ∈ u_ws RX7 TX7 2, w ∈ tables_1 := fun w h => ((goodIn_r (big := tables_1) (u_ws RX7 TX7 2) [209, 211] (by decide +kernel) (by decide +kernel)) w h).1
theorem kn_X8 : ∀ w ∈ u_ws RX8 TX8 11, w ∈ tables_1 := fun w h => ((goodIn_r (big := tables_1) (u_ws RX8 TX8 11) [65, 67, 69, 71, 73, 75, 77, 79, 81, 83, 85] (by decide +kernel) (by decide +kernel)) w h).1
theorem kn_X9 : ∀ w ∈ u_ws RX9 TX9 14, w ∈ tables_1 := fun w h => ((goodIn_r (big := tables_1) (u_ws RX9 TX9 14) [778, 780, 782, 784, 786, 788, 790, 792, 794, 796, 798, 800, 802, 804] (by decide +kernel) (by decide +kernel)) w h).1
theorem kn_X10 : ∀ w ∈ u_ws RX10 TX10 6, w ∈ tables_1 := fun w h => ((goodIn_r (big := tables_1) (u_ws RX10 TX10 6) [340, 342, 344, 346, 348, 350] (by decide +kernel) (by decide +kernel)) w h).1
theorem kn_X11 : ∀ w ∈ u_ws RX11 TX11 19, w ∈ tables_1 := fun w h => ((goodIn_r (big := tables_1) (u_ws RX11 TX11 19) [451, 453, 455, 457, 459, 461, 463, 465, 467, 469, 471, 473, 475, 477, 479, 481, 483, 485, 487] (by decide +kernel) (by decide +kernel)) w h).1
theorem kn_X12 : ∀ w ∈ u_ws RX12 TX12 153, w ∈ tables_1 := fun w h => ((goodIn_r (big := tables_1) (u_ws RX12 TX12 153) [1644, 1646, 1648, 1650, 1652, 1654, 1656, 1658, 1660, 1662, 1664, 1666, 1668, 1670, 1672, 1674, 1676, 1678, 1680, 1682, 1684, 1686, 1688, 1690, 1692, 1694, 1696, 1698, 1700, 1702, 1704, 1706, 1708, 1710, 1712, 1714, 1716, 1718, 1720, 1722, 1724, 1726, 1728, 1730, 1732, 1734, 1736, 1738, 1740, 1742, 1744, 1746, 1748, 1750, 1752, 1754, 1756, 1758, 1760, 1762, 1764, 1766, 1768, 1770, 1772, 1774, 1776, 1778, 1780, 1782, 1784, 1786, 1788, 1790, 1792, 1794, 1796, 1798, 1800, 1802, 1804, 1806, 1808, 1810, 1812, 1814, 1816, 1818, 1820, 1822, 1824, 1826, 1828, 1830, 1832, 1834, 1836, 1838, 1840, 1842, 1844, 1846, 1848, 1850, 1852, 1854, 1856, 1858, 1860, 1862, 1864, 1866, 1868, 1870, 1872, 1874, 1876, 1878, 1880, 1882, 1884, 1886, 1888, 1890, 1892, 1894, 1896, 1898, 1900, 1902, 1904, 1906, 1908, 1910, 1912, 1914, 1916, 1918, 1920, 1922, 1924, 1926, 1928, 1930, 1932, 1934, 1936, 1938, 1940, 1942, 1944, 1946, 1948] (by decide +kernel) (by decide +kernel)) w h).1
theorem pr_start {s : State} {args : Array Value} {ty : FieldType} (hp : ∀ C, ty ≠ .object C) (h : (Cond.arrayClass ty).before args s = true) : ∃ cA : ClassId, ArrOfT s cA ty ∧ va_RA s cA ty := by
  obtain ⟨cA, kA, comp, h1, h2, h3⟩ := Cond.arrayClass_spec (args := args) (first := s) (o := none) (s := s) (idx := []) h
  refine ⟨cA, fun n z => ⟨fun k h => (by cases h), kA, h2, comp, h3⟩, ?_⟩
  cases ty with
  | object C => exact absurd rfl (hp C)
  | _ => exact h1
theorem ob_start {s : State} {args : Array Value} {C : String} (h : (Cond.arrayOver (.object C)).before args s = true) : ∃ cA : ClassId, ArrOfT s cA (.object C) ∧ va_RA s cA (.object C) := by
  obtain ⟨comp, cA, kA, f1, -, f2, f3, f4⟩ := Cond.arrayOver_spec (args := args) (first := s) (o := none) (s := s) (idx := []) h
  exact ⟨cA, fun n z => ⟨fun k h => (by cases h), kA, f2, comp, f3⟩, kA, comp, f2, f3, f1, f4⟩
theorem k_start {s : State} {args : Array Value} (hts : ∀ w ∈ tables_1, w.before args s = true) : ∃ (D : va_G) (k : Nat → ClassId), va_K D vwCl (TYs k) s := by
  obtain ⟨k0, p0⟩ := pr_start (fun _ h => by cases h) (hts (.arrayClass .byte) (List.mem_of_getElem? (i := 88) (by decide +kernel)))
  obtain ⟨k1, p1⟩ := pr_start (fun _ h => by cases h) (hts (.arrayClass .char) (List.mem_of_getElem? (i := 1951) (by decide +kernel)))
  obtain ⟨k2, p2⟩ := pr_start (fun _ h => by cases h) (hts (.arrayClass .int) (List.mem_of_getElem? (i := 133) (by decide +kernel)))
  obtain ⟨k3, p3⟩ := pr_start (fun _ h => by cases h) (hts (.arrayClass .long) (List.mem_of_getElem? (i := 203) (by decide +kernel)))
  obtain ⟨k4, p4⟩ := pr_start (fun _ h => by cases h) (hts (.arrayClass .boolean) (List.mem_of_getElem? (i := 204) (by decide +kernel)))
  obtain ⟨k5, p5⟩ := ob_start (hts (.arrayOver (.object "CycleStudio$Definition")) (List.mem_of_getElem? (i := 98) (by decide +kernel)))
  obtain ⟨k6, p6⟩ := ob_start (hts (.arrayOver (.object "CycleStudio$Pattern")) (List.mem_of_getElem? (i := 96) (by decide +kernel)))
  obtain ⟨k7, p7⟩ := ob_start (hts (.arrayOver (.object "java/lang/Object")) (List.mem_of_getElem? (i := 585) (by decide +kernel)))
  obtain ⟨c0, i0, n0⟩ := u_known (C := RJx4a65c) (T := TJx4a65c) (N := 3) (n := 3) hts kn_Jx4a65c (hts (.instantiable RJx4a65c 3) (List.mem_of_getElem? (i := 255) (by decide +kernel)))
  obtain ⟨c1, i1, n1⟩ := u_known (C := RX0) (T := TX0) (N := 7) (n := 7) hts kn_X0 (hts (.instantiable RX0 7) (List.mem_of_getElem? (i := 287) (by decide +kernel)))
  obtain ⟨c2, i2, n2⟩ := u_known (C := RX1) (T := TX1) (N := 14) (n := 14) hts kn_X1 (hts (.instantiable RX1 14) (List.mem_of_getElem? (i := 141) (by decide +kernel)))
  obtain ⟨c3, i3, n3⟩ := u_known (C := RX2) (T := TX2) (N := 9) (n := 9) hts kn_X2 (hts (.instantiable RX2 9) (List.mem_of_getElem? (i := 215) (by decide +kernel)))
  obtain ⟨c4, i4, n4⟩ := u_known (C := RX3) (T := TX3) (N := 10) (n := 10) hts kn_X3 (hts (.instantiable RX3 10) (List.mem_of_getElem? (i := 90) (by decide +kernel)))
  obtain ⟨c5, i5, n5⟩ := u_known (C := RX4) (T := TX4) (N := 7) (n := 7) hts kn_X4 (hts (.instantiable RX4 7) (List.mem_of_getElem? (i := 1056) (by decide +kernel)))
  obtain ⟨c6, i6, n6⟩ := u_known (C := RX5) (T := TX5) (N := 11) (n := 11) hts kn_X5 (hts (.instantiable RX5 11) (List.mem_of_getElem? (i := 908) (by decide +kernel)))
  obtain ⟨c7, i7, n7⟩ := u_known (C := RX6) (T := TX6) (N := 7) (n := 7) hts kn_X6 (hts (.instantiable RX6 7) (List.mem_of_getElem? (i := 281) (by decide +kernel)))
  obtain ⟨c8, i8, n8⟩ := u_known (C := RX7) (T := TX7) (N := 2) (n := 2) hts kn_X7 (hts (.instantiable RX7 2) (List.mem_of_getElem? (i := 135) (by decide +kernel)))
  obtain ⟨c9, i9, n9⟩ := u_known (C := RX8) (T := TX8) (N := 11) (n := 11) hts kn_X8 (hts (.instantiable RX8 11) (List.mem_of_getElem? (i := 35) (by decide +kernel)))
  obtain ⟨c10, i10, n10⟩ := u_known (C := RX9) (T := TX9) (N := 14) (n := 14) hts kn_X9 (hts (.instantiable RX9 14) (List.mem_of_getElem? (i := 729) (by decide +kernel)))
  obtain ⟨c11, i11, n11⟩ := u_known (C := RX10) (T := TX10) (N := 6) (n := 6) hts kn_X10 (hts (.instantiable RX10 6) (List.mem_of_getElem? (i := 329) (by decide +kernel)))
  obtain ⟨c12, i12, n12⟩ := u_known (C := RX11) (T := TX11) (N := 19) (n := 19) hts kn_X11 (hts (.instantiable RX11 19) (List.mem_of_getElem? (i := 27) (by decide +kernel)))
  obtain ⟨c13, i13, n13⟩ := u_known (C := RX12) (T := TX12) (N := 153) (n := 153) hts kn_X12 (hts (.instantiable RX12 153) (List.mem_of_getElem? (i := 1483) (by decide +kernel)))
  refine ⟨(fun j => if j = 0 then c0 else if j = 1 then c1 else if j = 2 then c2 else if j = 3 then c3 else if j = 4 then c4 else if j = 5 then c5 else if j = 6 then c6 else if j = 7 then c7 else if j = 8 then c8 else if j = 9 then c9 else if j = 10 then c10 else if j = 11 then c11 else if j = 12 then c12 else c13, fun j => if j = 0 then i0 else if j = 1 then i1 else if j = 2 then i2 else if j = 3 then i3 else if j = 4 then i4 else if j = 5 then i5 else if j = 6 then i6 else if j = 7 then i7 else if j = 8 then i8 else if j = 9 then i9 else if j = 10 then i10 else if j = 11 then i11 else if j = 12 then i12 else i13), fun j => if j = 0 then k0 else if j = 1 then k1 else if j = 2 then k2 else if j = 3 then k3 else if j = 4 then k4 else if j = 5 then k5 else if j = 6 then k6 else k7, ⟨fun j q hq => ?_, fun j q hq => ?_⟩⟩
  · match j, hq with
    | 0, hq => cases hq; exact n0
    | 1, hq => cases hq; exact n1
    | 2, hq => cases hq; exact n2
    | 3, hq => cases hq; exact n3
    | 4, hq => cases hq; exact n4
    | 5, hq => cases hq; exact n5
    | 6, hq => cases hq; exact n6
    | 7, hq => cases hq; exact n7
    | 8, hq => cases hq; exact n8
    | 9, hq => cases hq; exact n9
    | 10, hq => cases hq; exact n10
    | 11, hq => cases hq; exact n11
    | 12, hq => cases hq; exact n12
    | 13, hq => cases hq; exact n13
    | j + 14, hq => simp [vwCl] at hq
  · match j, hq with
    | 0, hq => cases hq; exact p0
    | 1, hq => cases hq; exact p1
    | 2, hq => cases hq; exact p2
    | 3, hq => cases hq; exact p3
    | 4, hq => cases hq; exact p4
    | 5, hq => cases hq; exact p5
    | 6, hq => cases hq; exact p6
    | 7, hq => cases hq; exact p7
    | j + 8, hq => simp [TYs] at hq
