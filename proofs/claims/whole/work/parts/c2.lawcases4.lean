set_option maxRecDepth 100000 in
set_option maxHeartbeats 4000000 in
theorem lv_c36 {x : Cx} {z z1 z2 : Sx} {b Ln cn sn : Nat} {xs : Nat → Int32} {Q : State → Prop} (X : X2 x z z1 z2 code 4 20 487 b Ln xs) (hZ1 : z1.2.2.2.1 = kdC) (hZ2 : z2.2.2.2.1 = kdM) (hk1 : z1.2.2.2.1 0 = (11, 0)) (hk2 : z2.2.2.2.1 0 = (12, 0)) (hcr : ∀ R : Room, (match x with | (_, _, _, R', _) => R') = R → cn ≤ R.cells ∧ sn ≤ R.slots) (N : Nat) (rc : Int32 → Mem → Mem → Option Int32) (hrec : ∀ (v3 : Int32) (σ1 σ2 : Mem), V2 x z z1 z2 4 cn sn Q 2049 [(0, .ref b), (1, .ref (z1.2.2.1 0)), (2, .ref (z2.2.2.1 0)), (3, .int v3)] [] σ1 σ2 (rc v3 σ1 σ2)) (v3 : Int32) (σ1 σ2 : Mem) : V2 x z z1 z2 4 cn sn Q 1776 [(0, .ref b), (1, .ref (z1.2.2.1 0)), (2, .ref (z2.2.2.1 0)), (3, .int v3)] [] σ1 σ2 (lw_c36 N xs Ln rc v3 σ1 σ2) := by
  unfold lw_c36
  refine V2_aload_n 1 X dL_law_1776 rfl rfl ?_
  refine V2_aload_n 0 X dL_law_1777 rfl rfl ?_
  refine V2_iload_n 3 X dL_law_1778 rfl rfl ?_
  refine V2_iconst (v := 1) X dL_law_1779 (by decide) ?_
  refine V2_iadd X dL_law_1780 ?_
  refine V2_sld X dL_law_1781 ?_
  refine V2_aload_n 0 X dL_law_1782 rfl rfl ?_
  refine V2_iload_n 3 X dL_law_1783 rfl rfl ?_
  refine V2_iconst (v := 2) X dL_law_1784 (by decide) ?_
  refine V2_iadd X dL_law_1785 ?_
  refine V2_sld X dL_law_1786 ?_
  refine V2_callI1 [.int (xs (v3 + 1).toNatClampNeg), .int (xs (v3 + 2).toNatClampNeg)] [] X dL_law_1787 (kX11_oaken x.2.1 z1 hZ1 N 0 hk1 (xs (v3 + 1).toNatClampNeg) (xs (v3 + 2).toNatClampNeg) σ1) co11 hk1 gcL_168 hyL_X11_oaken rfl ⟨by decide, by decide⟩ rfl (Nat.le_of_ble_eq_true rfl) hcr (fun r1 s2 => ?_)
  refine V2_aload_n 2 X dL_law_1790 rfl rfl ?_
  refine V2_aload_n 0 X dL_law_1791 rfl rfl ?_
  refine V2_iload_n 3 X dL_law_1792 rfl rfl ?_
  refine V2_iconst (v := 1) X dL_law_1793 (by decide) ?_
  refine V2_iadd X dL_law_1794 ?_
  refine V2_sld X dL_law_1795 ?_
  refine V2_aload_n 0 X dL_law_1796 rfl rfl ?_
  refine V2_iload_n 3 X dL_law_1797 rfl rfl ?_
  refine V2_iconst (v := 2) X dL_law_1798 (by decide) ?_
  refine V2_iadd X dL_law_1799 ?_
  refine V2_sld X dL_law_1800 ?_
  refine V2_callI2 [.int (xs (v3 + 1).toNatClampNeg), .int (xs (v3 + 2).toNatClampNeg)] [.int r1] X dL_law_1801 (kX12_oaken x.2.1 z2 hZ2 N (xs (v3 + 1).toNatClampNeg) (xs (v3 + 2).toNatClampNeg) σ2) co12 hk2 gcL_171 hyL_X12_oaken rfl ⟨by decide, by decide⟩ rfl (Nat.le_of_ble_eq_true rfl) hcr (fun r3 s4 => ?_)
  refine V2_icmp_eq (tgt := 2049) X dL_law_1804 (by decide) ?_ ?_
  · exact hrec v3 s2 s4
  · refine V2_iconst (v := 0) X dL_law_1807 (by decide) ?_
    exact fun q => absurd q (by decide)
set_option maxRecDepth 100000 in
set_option maxHeartbeats 4000000 in
theorem lv_c37 {x : Cx} {z z1 z2 : Sx} {b Ln cn sn : Nat} {xs : Nat → Int32} {Q : State → Prop} (X : X2 x z z1 z2 code 4 20 487 b Ln xs) (hZ1 : z1.2.2.2.1 = kdC) (hZ2 : z2.2.2.2.1 = kdM) (hk1 : z1.2.2.2.1 0 = (11, 0)) (hk2 : z2.2.2.2.1 0 = (12, 0)) (hcr : ∀ R : Room, (match x with | (_, _, _, R', _) => R') = R → cn ≤ R.cells ∧ sn ≤ R.slots) (N : Nat) (rc : Int32 → Mem → Mem → Option Int32) (hrec : ∀ (v3 : Int32) (σ1 σ2 : Mem), V2 x z z1 z2 4 cn sn Q 2049 [(0, .ref b), (1, .ref (z1.2.2.1 0)), (2, .ref (z2.2.2.1 0)), (3, .int v3)] [] σ1 σ2 (rc v3 σ1 σ2)) (v3 : Int32) (σ1 σ2 : Mem) : V2 x z z1 z2 4 cn sn Q 1809 [(0, .ref b), (1, .ref (z1.2.2.1 0)), (2, .ref (z2.2.2.1 0)), (3, .int v3)] [] σ1 σ2 (lw_c37 N xs Ln rc v3 σ1 σ2) := by
  unfold lw_c37
  refine V2_aload_n 1 X dL_law_1809 rfl rfl ?_
  refine V2_aload_n 0 X dL_law_1810 rfl rfl ?_
  refine V2_iload_n 3 X dL_law_1811 rfl rfl ?_
  refine V2_iconst (v := 1) X dL_law_1812 (by decide) ?_
  refine V2_iadd X dL_law_1813 ?_
  refine V2_sld X dL_law_1814 ?_
  refine V2_aload_n 0 X dL_law_1815 rfl rfl ?_
  refine V2_iload_n 3 X dL_law_1816 rfl rfl ?_
  refine V2_iconst (v := 2) X dL_law_1817 (by decide) ?_
  refine V2_iadd X dL_law_1818 ?_
  refine V2_sld X dL_law_1819 ?_
  refine V2_aload_n 0 X dL_law_1820 rfl rfl ?_
  refine V2_iload_n 3 X dL_law_1821 rfl rfl ?_
  refine V2_iconst (v := 3) X dL_law_1822 (by decide) ?_
  refine V2_iadd X dL_law_1823 ?_
  refine V2_sld X dL_law_1824 ?_
  refine V2_callI1 [.int (xs (v3 + 1).toNatClampNeg), .int (xs (v3 + 2).toNatClampNeg), .int (xs (v3 + 3).toNatClampNeg)] [] X dL_law_1825 (kX11_walk x.2.1 z1 hZ1 N 0 hk1 (xs (v3 + 1).toNatClampNeg) (xs (v3 + 2).toNatClampNeg) (xs (v3 + 3).toNatClampNeg) σ1) co11 hk1 gcL_172 hyL_X11_walk rfl ⟨by decide, by decide⟩ rfl (Nat.le_of_ble_eq_true rfl) hcr (fun r1 s2 => ?_)
  refine V2_aload_n 2 X dL_law_1828 rfl rfl ?_
  refine V2_aload_n 0 X dL_law_1829 rfl rfl ?_
  refine V2_iload_n 3 X dL_law_1830 rfl rfl ?_
  refine V2_iconst (v := 1) X dL_law_1831 (by decide) ?_
  refine V2_iadd X dL_law_1832 ?_
  refine V2_sld X dL_law_1833 ?_
  refine V2_aload_n 0 X dL_law_1834 rfl rfl ?_
  refine V2_iload_n 3 X dL_law_1835 rfl rfl ?_
  refine V2_iconst (v := 2) X dL_law_1836 (by decide) ?_
  refine V2_iadd X dL_law_1837 ?_
  refine V2_sld X dL_law_1838 ?_
  refine V2_aload_n 0 X dL_law_1839 rfl rfl ?_
  refine V2_iload_n 3 X dL_law_1840 rfl rfl ?_
  refine V2_iconst (v := 3) X dL_law_1841 (by decide) ?_
  refine V2_iadd X dL_law_1842 ?_
  refine V2_sld X dL_law_1843 ?_
  refine V2_callI2 [.int (xs (v3 + 1).toNatClampNeg), .int (xs (v3 + 2).toNatClampNeg), .int (xs (v3 + 3).toNatClampNeg)] [.int r1] X dL_law_1844 (kX12_walk x.2.1 z2 hZ2 N (xs (v3 + 1).toNatClampNeg) (xs (v3 + 2).toNatClampNeg) (xs (v3 + 3).toNatClampNeg) σ2) co12 hk2 gcL_175 hyL_X12_walk rfl ⟨by decide, by decide⟩ rfl (Nat.le_of_ble_eq_true rfl) hcr (fun r3 s4 => ?_)
  refine V2_icmp_eq (tgt := 2049) X dL_law_1847 (by decide) ?_ ?_
  · exact hrec v3 s2 s4
  · refine V2_iconst (v := 0) X dL_law_1850 (by decide) ?_
    exact fun q => absurd q (by decide)
set_option maxRecDepth 100000 in
set_option maxHeartbeats 4000000 in
theorem lv_c38 {x : Cx} {z z1 z2 : Sx} {b Ln cn sn : Nat} {xs : Nat → Int32} {Q : State → Prop} (X : X2 x z z1 z2 code 4 20 487 b Ln xs) (hZ1 : z1.2.2.2.1 = kdC) (hZ2 : z2.2.2.2.1 = kdM) (hk1 : z1.2.2.2.1 0 = (11, 0)) (hk2 : z2.2.2.2.1 0 = (12, 0)) (hcr : ∀ R : Room, (match x with | (_, _, _, R', _) => R') = R → cn ≤ R.cells ∧ sn ≤ R.slots) (N : Nat) (rc : Int32 → Mem → Mem → Option Int32) (hrec : ∀ (v3 : Int32) (σ1 σ2 : Mem), V2 x z z1 z2 4 cn sn Q 2049 [(0, .ref b), (1, .ref (z1.2.2.1 0)), (2, .ref (z2.2.2.1 0)), (3, .int v3)] [] σ1 σ2 (rc v3 σ1 σ2)) (v3 : Int32) (σ1 σ2 : Mem) : V2 x z z1 z2 4 cn sn Q 1852 [(0, .ref b), (1, .ref (z1.2.2.1 0)), (2, .ref (z2.2.2.1 0)), (3, .int v3)] [] σ1 σ2 (lw_c38 N xs Ln rc v3 σ1 σ2) := by
  unfold lw_c38
  refine V2_aload_n 1 X dL_law_1852 rfl rfl ?_
  refine V2_aload_n 0 X dL_law_1853 rfl rfl ?_
  refine V2_iload_n 3 X dL_law_1854 rfl rfl ?_
  refine V2_iconst (v := 1) X dL_law_1855 (by decide) ?_
  refine V2_iadd X dL_law_1856 ?_
  refine V2_sld X dL_law_1857 ?_
  refine V2_aload_n 0 X dL_law_1858 rfl rfl ?_
  refine V2_iload_n 3 X dL_law_1859 rfl rfl ?_
  refine V2_iconst (v := 2) X dL_law_1860 (by decide) ?_
  refine V2_iadd X dL_law_1861 ?_
  refine V2_sld X dL_law_1862 ?_
  refine V2_aload_n 0 X dL_law_1863 rfl rfl ?_
  refine V2_iload_n 3 X dL_law_1864 rfl rfl ?_
  refine V2_iconst (v := 3) X dL_law_1865 (by decide) ?_
  refine V2_iadd X dL_law_1866 ?_
  refine V2_sld X dL_law_1867 ?_
  refine V2_aload_n 0 X dL_law_1868 rfl rfl ?_
  refine V2_iload_n 3 X dL_law_1869 rfl rfl ?_
  refine V2_iconst (v := 4) X dL_law_1870 (by decide) ?_
  refine V2_iadd X dL_law_1871 ?_
  refine V2_sld X dL_law_1872 ?_
  refine V2_if_eq (tgt := 1880) X dL_law_1873 (by decide) ?_ ?_
  · refine V2_iconst (v := 0) X dL_law_1880 (by decide) ?_
    refine V2_callI1 [.int (xs (v3 + 1).toNatClampNeg), .int (xs (v3 + 2).toNatClampNeg), .int (xs (v3 + 3).toNatClampNeg), .int 0] [] X dL_law_1881 (kX11_place x.2.1 z1 hZ1 N 0 hk1 (xs (v3 + 1).toNatClampNeg) (xs (v3 + 2).toNatClampNeg) (xs (v3 + 3).toNatClampNeg) 0 σ1) co11 hk1 gcL_176 hyL_X11_place rfl ⟨by decide, by decide⟩ rfl (Nat.le_of_ble_eq_true rfl) hcr (fun r1 s2 => ?_)
    refine V2_aload_n 2 X dL_law_1884 rfl rfl ?_
    refine V2_aload_n 0 X dL_law_1885 rfl rfl ?_
    refine V2_iload_n 3 X dL_law_1886 rfl rfl ?_
    refine V2_iconst (v := 1) X dL_law_1887 (by decide) ?_
    refine V2_iadd X dL_law_1888 ?_
    refine V2_sld X dL_law_1889 ?_
    refine V2_aload_n 0 X dL_law_1890 rfl rfl ?_
    refine V2_iload_n 3 X dL_law_1891 rfl rfl ?_
    refine V2_iconst (v := 2) X dL_law_1892 (by decide) ?_
    refine V2_iadd X dL_law_1893 ?_
    refine V2_sld X dL_law_1894 ?_
    refine V2_aload_n 0 X dL_law_1895 rfl rfl ?_
    refine V2_iload_n 3 X dL_law_1896 rfl rfl ?_
    refine V2_iconst (v := 3) X dL_law_1897 (by decide) ?_
    refine V2_iadd X dL_law_1898 ?_
    refine V2_sld X dL_law_1899 ?_
    refine V2_aload_n 0 X dL_law_1900 rfl rfl ?_
    refine V2_iload_n 3 X dL_law_1901 rfl rfl ?_
    refine V2_iconst (v := 4) X dL_law_1902 (by decide) ?_
    refine V2_iadd X dL_law_1903 ?_
    refine V2_sld X dL_law_1904 ?_
    refine V2_if_eq (tgt := 1912) X dL_law_1905 (by decide) ?_ ?_
    · refine V2_iconst (v := 0) X dL_law_1912 (by decide) ?_
      refine V2_callI2 [.int (xs (v3 + 1).toNatClampNeg), .int (xs (v3 + 2).toNatClampNeg), .int (xs (v3 + 3).toNatClampNeg), .int 0] [.int r1] X dL_law_1913 (kX12_place x.2.1 z2 hZ2 N (xs (v3 + 1).toNatClampNeg) (xs (v3 + 2).toNatClampNeg) (xs (v3 + 3).toNatClampNeg) 0 σ2) co12 hk2 gcL_179 hyL_X12_place rfl ⟨by decide, by decide⟩ rfl (Nat.le_of_ble_eq_true rfl) hcr (fun r3 s4 => ?_)
      refine V2_icmp_eq (tgt := 2049) X dL_law_1916 (by decide) ?_ ?_
      · exact hrec v3 s2 s4
      · refine V2_iconst (v := 0) X dL_law_1919 (by decide) ?_
        exact fun q => absurd q (by decide)
    · refine V2_iconst (v := 1) X dL_law_1908 (by decide) ?_
      refine V2_goto (tgt := 1913) X dL_law_1909 (by decide) ?_
      refine V2_callI2 [.int (xs (v3 + 1).toNatClampNeg), .int (xs (v3 + 2).toNatClampNeg), .int (xs (v3 + 3).toNatClampNeg), .int 1] [.int r1] X dL_law_1913 (kX12_place x.2.1 z2 hZ2 N (xs (v3 + 1).toNatClampNeg) (xs (v3 + 2).toNatClampNeg) (xs (v3 + 3).toNatClampNeg) 1 σ2) co12 hk2 gcL_179 hyL_X12_place rfl ⟨by decide, by decide⟩ rfl (Nat.le_of_ble_eq_true rfl) hcr (fun r5 s6 => ?_)
      refine V2_icmp_eq (tgt := 2049) X dL_law_1916 (by decide) ?_ ?_
      · exact hrec v3 s2 s6
      · refine V2_iconst (v := 0) X dL_law_1919 (by decide) ?_
        exact fun q => absurd q (by decide)
  · refine V2_iconst (v := 1) X dL_law_1876 (by decide) ?_
    refine V2_goto (tgt := 1881) X dL_law_1877 (by decide) ?_
    refine V2_callI1 [.int (xs (v3 + 1).toNatClampNeg), .int (xs (v3 + 2).toNatClampNeg), .int (xs (v3 + 3).toNatClampNeg), .int 1] [] X dL_law_1881 (kX11_place x.2.1 z1 hZ1 N 0 hk1 (xs (v3 + 1).toNatClampNeg) (xs (v3 + 2).toNatClampNeg) (xs (v3 + 3).toNatClampNeg) 1 σ1) co11 hk1 gcL_176 hyL_X11_place rfl ⟨by decide, by decide⟩ rfl (Nat.le_of_ble_eq_true rfl) hcr (fun r7 s8 => ?_)
    refine V2_aload_n 2 X dL_law_1884 rfl rfl ?_
    refine V2_aload_n 0 X dL_law_1885 rfl rfl ?_
    refine V2_iload_n 3 X dL_law_1886 rfl rfl ?_
    refine V2_iconst (v := 1) X dL_law_1887 (by decide) ?_
    refine V2_iadd X dL_law_1888 ?_
    refine V2_sld X dL_law_1889 ?_
    refine V2_aload_n 0 X dL_law_1890 rfl rfl ?_
    refine V2_iload_n 3 X dL_law_1891 rfl rfl ?_
    refine V2_iconst (v := 2) X dL_law_1892 (by decide) ?_
    refine V2_iadd X dL_law_1893 ?_
    refine V2_sld X dL_law_1894 ?_
    refine V2_aload_n 0 X dL_law_1895 rfl rfl ?_
    refine V2_iload_n 3 X dL_law_1896 rfl rfl ?_
    refine V2_iconst (v := 3) X dL_law_1897 (by decide) ?_
    refine V2_iadd X dL_law_1898 ?_
    refine V2_sld X dL_law_1899 ?_
    refine V2_aload_n 0 X dL_law_1900 rfl rfl ?_
    refine V2_iload_n 3 X dL_law_1901 rfl rfl ?_
    refine V2_iconst (v := 4) X dL_law_1902 (by decide) ?_
    refine V2_iadd X dL_law_1903 ?_
    refine V2_sld X dL_law_1904 ?_
    refine V2_if_eq (tgt := 1912) X dL_law_1905 (by decide) ?_ ?_
    · refine V2_iconst (v := 0) X dL_law_1912 (by decide) ?_
      refine V2_callI2 [.int (xs (v3 + 1).toNatClampNeg), .int (xs (v3 + 2).toNatClampNeg), .int (xs (v3 + 3).toNatClampNeg), .int 0] [.int r7] X dL_law_1913 (kX12_place x.2.1 z2 hZ2 N (xs (v3 + 1).toNatClampNeg) (xs (v3 + 2).toNatClampNeg) (xs (v3 + 3).toNatClampNeg) 0 σ2) co12 hk2 gcL_179 hyL_X12_place rfl ⟨by decide, by decide⟩ rfl (Nat.le_of_ble_eq_true rfl) hcr (fun r9 s10 => ?_)
      refine V2_icmp_eq (tgt := 2049) X dL_law_1916 (by decide) ?_ ?_
      · exact hrec v3 s8 s10
      · refine V2_iconst (v := 0) X dL_law_1919 (by decide) ?_
        exact fun q => absurd q (by decide)
    · refine V2_iconst (v := 1) X dL_law_1908 (by decide) ?_
      refine V2_goto (tgt := 1913) X dL_law_1909 (by decide) ?_
      refine V2_callI2 [.int (xs (v3 + 1).toNatClampNeg), .int (xs (v3 + 2).toNatClampNeg), .int (xs (v3 + 3).toNatClampNeg), .int 1] [.int r7] X dL_law_1913 (kX12_place x.2.1 z2 hZ2 N (xs (v3 + 1).toNatClampNeg) (xs (v3 + 2).toNatClampNeg) (xs (v3 + 3).toNatClampNeg) 1 σ2) co12 hk2 gcL_179 hyL_X12_place rfl ⟨by decide, by decide⟩ rfl (Nat.le_of_ble_eq_true rfl) hcr (fun r11 s12 => ?_)
      refine V2_icmp_eq (tgt := 2049) X dL_law_1916 (by decide) ?_ ?_
      · exact hrec v3 s8 s12
      · refine V2_iconst (v := 0) X dL_law_1919 (by decide) ?_
        exact fun q => absurd q (by decide)
set_option maxRecDepth 100000 in
set_option maxHeartbeats 4000000 in
theorem lv_c39 {x : Cx} {z z1 z2 : Sx} {b Ln cn sn : Nat} {xs : Nat → Int32} {Q : State → Prop} (X : X2 x z z1 z2 code 4 20 487 b Ln xs) (hZ1 : z1.2.2.2.1 = kdC) (hZ2 : z2.2.2.2.1 = kdM) (hk1 : z1.2.2.2.1 0 = (11, 0)) (hk2 : z2.2.2.2.1 0 = (12, 0)) (hcr : ∀ R : Room, (match x with | (_, _, _, R', _) => R') = R → cn ≤ R.cells ∧ sn ≤ R.slots) (N : Nat) (rc : Int32 → Mem → Mem → Option Int32) (hrec : ∀ (v3 : Int32) (σ1 σ2 : Mem), V2 x z z1 z2 4 cn sn Q 2049 [(0, .ref b), (1, .ref (z1.2.2.1 0)), (2, .ref (z2.2.2.1 0)), (3, .int v3)] [] σ1 σ2 (rc v3 σ1 σ2)) (v3 : Int32) (σ1 σ2 : Mem) : V2 x z z1 z2 4 cn sn Q 1921 [(0, .ref b), (1, .ref (z1.2.2.1 0)), (2, .ref (z2.2.2.1 0)), (3, .int v3)] [] σ1 σ2 (lw_c39 N xs Ln rc v3 σ1 σ2) := by
  unfold lw_c39
  refine V2_aload_n 1 X dL_law_1921 rfl rfl ?_
  refine V2_aload_n 0 X dL_law_1922 rfl rfl ?_
  refine V2_iload_n 3 X dL_law_1923 rfl rfl ?_
  refine V2_iconst (v := 1) X dL_law_1924 (by decide) ?_
  refine V2_iadd X dL_law_1925 ?_
  refine V2_sld X dL_law_1926 ?_
  refine V2_aload_n 0 X dL_law_1927 rfl rfl ?_
  refine V2_iload_n 3 X dL_law_1928 rfl rfl ?_
  refine V2_iconst (v := 2) X dL_law_1929 (by decide) ?_
  refine V2_iadd X dL_law_1930 ?_
  refine V2_sld X dL_law_1931 ?_
  refine V2_aload_n 0 X dL_law_1932 rfl rfl ?_
  refine V2_iload_n 3 X dL_law_1933 rfl rfl ?_
  refine V2_iconst (v := 3) X dL_law_1934 (by decide) ?_
  refine V2_iadd X dL_law_1935 ?_
  refine V2_sld X dL_law_1936 ?_
  refine V2_if_eq (tgt := 1944) X dL_law_1937 (by decide) ?_ ?_
  · refine V2_iconst (v := 0) X dL_law_1944 (by decide) ?_
    refine V2_callI1 [.int (xs (v3 + 1).toNatClampNeg), .int (xs (v3 + 2).toNatClampNeg), .int 0] [] X dL_law_1945 (kX11_hinge x.2.1 z1 hZ1 N 0 hk1 (xs (v3 + 1).toNatClampNeg) (xs (v3 + 2).toNatClampNeg) 0 σ1) co11 hk1 gcL_180 hyL_X11_hinge rfl ⟨by decide, by decide⟩ rfl (Nat.le_of_ble_eq_true rfl) hcr (fun r1 s2 => ?_)
    refine V2_aload_n 2 X dL_law_1948 rfl rfl ?_
    refine V2_aload_n 0 X dL_law_1949 rfl rfl ?_
    refine V2_iload_n 3 X dL_law_1950 rfl rfl ?_
    refine V2_iconst (v := 1) X dL_law_1951 (by decide) ?_
    refine V2_iadd X dL_law_1952 ?_
    refine V2_sld X dL_law_1953 ?_
    refine V2_aload_n 0 X dL_law_1954 rfl rfl ?_
    refine V2_iload_n 3 X dL_law_1955 rfl rfl ?_
    refine V2_iconst (v := 2) X dL_law_1956 (by decide) ?_
    refine V2_iadd X dL_law_1957 ?_
    refine V2_sld X dL_law_1958 ?_
    refine V2_aload_n 0 X dL_law_1959 rfl rfl ?_
    refine V2_iload_n 3 X dL_law_1960 rfl rfl ?_
    refine V2_iconst (v := 3) X dL_law_1961 (by decide) ?_
    refine V2_iadd X dL_law_1962 ?_
    refine V2_sld X dL_law_1963 ?_
    refine V2_if_eq (tgt := 1971) X dL_law_1964 (by decide) ?_ ?_
    · refine V2_iconst (v := 0) X dL_law_1971 (by decide) ?_
      refine V2_callI2 [.int (xs (v3 + 1).toNatClampNeg), .int (xs (v3 + 2).toNatClampNeg), .int 0] [.int r1] X dL_law_1972 (kX12_hinge x.2.1 z2 hZ2 N (xs (v3 + 1).toNatClampNeg) (xs (v3 + 2).toNatClampNeg) 0 σ2) co12 hk2 gcL_183 hyL_X12_hinge rfl ⟨by decide, by decide⟩ rfl (Nat.le_of_ble_eq_true rfl) hcr (fun r3 s4 => ?_)
      refine V2_icmp_eq (tgt := 2049) X dL_law_1975 (by decide) ?_ ?_
      · exact hrec v3 s2 s4
      · refine V2_iconst (v := 0) X dL_law_1978 (by decide) ?_
        exact fun q => absurd q (by decide)
    · refine V2_iconst (v := 1) X dL_law_1967 (by decide) ?_
      refine V2_goto (tgt := 1972) X dL_law_1968 (by decide) ?_
      refine V2_callI2 [.int (xs (v3 + 1).toNatClampNeg), .int (xs (v3 + 2).toNatClampNeg), .int 1] [.int r1] X dL_law_1972 (kX12_hinge x.2.1 z2 hZ2 N (xs (v3 + 1).toNatClampNeg) (xs (v3 + 2).toNatClampNeg) 1 σ2) co12 hk2 gcL_183 hyL_X12_hinge rfl ⟨by decide, by decide⟩ rfl (Nat.le_of_ble_eq_true rfl) hcr (fun r5 s6 => ?_)
      refine V2_icmp_eq (tgt := 2049) X dL_law_1975 (by decide) ?_ ?_
      · exact hrec v3 s2 s6
      · refine V2_iconst (v := 0) X dL_law_1978 (by decide) ?_
        exact fun q => absurd q (by decide)
  · refine V2_iconst (v := 1) X dL_law_1940 (by decide) ?_
    refine V2_goto (tgt := 1945) X dL_law_1941 (by decide) ?_
    refine V2_callI1 [.int (xs (v3 + 1).toNatClampNeg), .int (xs (v3 + 2).toNatClampNeg), .int 1] [] X dL_law_1945 (kX11_hinge x.2.1 z1 hZ1 N 0 hk1 (xs (v3 + 1).toNatClampNeg) (xs (v3 + 2).toNatClampNeg) 1 σ1) co11 hk1 gcL_180 hyL_X11_hinge rfl ⟨by decide, by decide⟩ rfl (Nat.le_of_ble_eq_true rfl) hcr (fun r7 s8 => ?_)
    refine V2_aload_n 2 X dL_law_1948 rfl rfl ?_
    refine V2_aload_n 0 X dL_law_1949 rfl rfl ?_
    refine V2_iload_n 3 X dL_law_1950 rfl rfl ?_
    refine V2_iconst (v := 1) X dL_law_1951 (by decide) ?_
    refine V2_iadd X dL_law_1952 ?_
    refine V2_sld X dL_law_1953 ?_
    refine V2_aload_n 0 X dL_law_1954 rfl rfl ?_
    refine V2_iload_n 3 X dL_law_1955 rfl rfl ?_
    refine V2_iconst (v := 2) X dL_law_1956 (by decide) ?_
    refine V2_iadd X dL_law_1957 ?_
    refine V2_sld X dL_law_1958 ?_
    refine V2_aload_n 0 X dL_law_1959 rfl rfl ?_
    refine V2_iload_n 3 X dL_law_1960 rfl rfl ?_
    refine V2_iconst (v := 3) X dL_law_1961 (by decide) ?_
    refine V2_iadd X dL_law_1962 ?_
    refine V2_sld X dL_law_1963 ?_
    refine V2_if_eq (tgt := 1971) X dL_law_1964 (by decide) ?_ ?_
    · refine V2_iconst (v := 0) X dL_law_1971 (by decide) ?_
      refine V2_callI2 [.int (xs (v3 + 1).toNatClampNeg), .int (xs (v3 + 2).toNatClampNeg), .int 0] [.int r7] X dL_law_1972 (kX12_hinge x.2.1 z2 hZ2 N (xs (v3 + 1).toNatClampNeg) (xs (v3 + 2).toNatClampNeg) 0 σ2) co12 hk2 gcL_183 hyL_X12_hinge rfl ⟨by decide, by decide⟩ rfl (Nat.le_of_ble_eq_true rfl) hcr (fun r9 s10 => ?_)
      refine V2_icmp_eq (tgt := 2049) X dL_law_1975 (by decide) ?_ ?_
      · exact hrec v3 s8 s10
      · refine V2_iconst (v := 0) X dL_law_1978 (by decide) ?_
        exact fun q => absurd q (by decide)
    · refine V2_iconst (v := 1) X dL_law_1967 (by decide) ?_
      refine V2_goto (tgt := 1972) X dL_law_1968 (by decide) ?_
      refine V2_callI2 [.int (xs (v3 + 1).toNatClampNeg), .int (xs (v3 + 2).toNatClampNeg), .int 1] [.int r7] X dL_law_1972 (kX12_hinge x.2.1 z2 hZ2 N (xs (v3 + 1).toNatClampNeg) (xs (v3 + 2).toNatClampNeg) 1 σ2) co12 hk2 gcL_183 hyL_X12_hinge rfl ⟨by decide, by decide⟩ rfl (Nat.le_of_ble_eq_true rfl) hcr (fun r11 s12 => ?_)
      refine V2_icmp_eq (tgt := 2049) X dL_law_1975 (by decide) ?_ ?_
      · exact hrec v3 s8 s12
      · refine V2_iconst (v := 0) X dL_law_1978 (by decide) ?_
        exact fun q => absurd q (by decide)
set_option maxRecDepth 100000 in
set_option maxHeartbeats 4000000 in
theorem lv_c40 {x : Cx} {z z1 z2 : Sx} {b Ln cn sn : Nat} {xs : Nat → Int32} {Q : State → Prop} (X : X2 x z z1 z2 code 4 20 487 b Ln xs) (hZ1 : z1.2.2.2.1 = kdC) (hZ2 : z2.2.2.2.1 = kdM) (hk1 : z1.2.2.2.1 0 = (11, 0)) (hk2 : z2.2.2.2.1 0 = (12, 0)) (hcr : ∀ R : Room, (match x with | (_, _, _, R', _) => R') = R → cn ≤ R.cells ∧ sn ≤ R.slots) (N : Nat) (rc : Int32 → Mem → Mem → Option Int32) (hrec : ∀ (v3 : Int32) (σ1 σ2 : Mem), V2 x z z1 z2 4 cn sn Q 2049 [(0, .ref b), (1, .ref (z1.2.2.1 0)), (2, .ref (z2.2.2.1 0)), (3, .int v3)] [] σ1 σ2 (rc v3 σ1 σ2)) (v3 : Int32) (σ1 σ2 : Mem) : V2 x z z1 z2 4 cn sn Q 1980 [(0, .ref b), (1, .ref (z1.2.2.1 0)), (2, .ref (z2.2.2.1 0)), (3, .int v3)] [] σ1 σ2 (lw_c40 N xs Ln rc v3 σ1 σ2) := by
  unfold lw_c40
  refine V2_aload_n 1 X dL_law_1980 rfl rfl ?_
  refine V2_aload_n 0 X dL_law_1981 rfl rfl ?_
  refine V2_iload_n 3 X dL_law_1982 rfl rfl ?_
  refine V2_iconst (v := 1) X dL_law_1983 (by decide) ?_
  refine V2_iadd X dL_law_1984 ?_
  refine V2_sld X dL_law_1985 ?_
  refine V2_callI1 [.int (xs (v3 + 1).toNatClampNeg)] [] X dL_law_1986 (kX11_count x.2.1 z1 hZ1 N 0 hk1 (xs (v3 + 1).toNatClampNeg) σ1) co11 hk1 gcL_184 hyL_X11_count rfl ⟨by decide, by decide⟩ rfl (Nat.le_of_ble_eq_true rfl) hcr (fun r1 s2 => ?_)
  refine V2_aload_n 2 X dL_law_1989 rfl rfl ?_
  refine V2_aload_n 0 X dL_law_1990 rfl rfl ?_
  refine V2_iload_n 3 X dL_law_1991 rfl rfl ?_
  refine V2_iconst (v := 1) X dL_law_1992 (by decide) ?_
  refine V2_iadd X dL_law_1993 ?_
  refine V2_sld X dL_law_1994 ?_
  refine V2_callI2 [.int (xs (v3 + 1).toNatClampNeg)] [.int r1] X dL_law_1995 (kX12_count x.2.1 z2 hZ2 N (xs (v3 + 1).toNatClampNeg) σ2) co12 hk2 gcL_187 hyL_X12_count rfl ⟨by decide, by decide⟩ rfl (Nat.le_of_ble_eq_true rfl) hcr (fun r3 s4 => ?_)
  refine V2_icmp_eq (tgt := 2049) X dL_law_1998 (by decide) ?_ ?_
  · exact hrec v3 s2 s4
  · refine V2_iconst (v := 0) X dL_law_2001 (by decide) ?_
    exact fun q => absurd q (by decide)
set_option maxRecDepth 100000 in
set_option maxHeartbeats 4000000 in
theorem lv_c41 {x : Cx} {z z1 z2 : Sx} {b Ln cn sn : Nat} {xs : Nat → Int32} {Q : State → Prop} (X : X2 x z z1 z2 code 4 20 487 b Ln xs) (hZ1 : z1.2.2.2.1 = kdC) (hZ2 : z2.2.2.2.1 = kdM) (hk1 : z1.2.2.2.1 0 = (11, 0)) (hk2 : z2.2.2.2.1 0 = (12, 0)) (hcr : ∀ R : Room, (match x with | (_, _, _, R', _) => R') = R → cn ≤ R.cells ∧ sn ≤ R.slots) (N : Nat) (rc : Int32 → Mem → Mem → Option Int32) (hrec : ∀ (v3 : Int32) (σ1 σ2 : Mem), V2 x z z1 z2 4 cn sn Q 2049 [(0, .ref b), (1, .ref (z1.2.2.1 0)), (2, .ref (z2.2.2.1 0)), (3, .int v3)] [] σ1 σ2 (rc v3 σ1 σ2)) (v3 : Int32) (σ1 σ2 : Mem) : V2 x z z1 z2 4 cn sn Q 2003 [(0, .ref b), (1, .ref (z1.2.2.1 0)), (2, .ref (z2.2.2.1 0)), (3, .int v3)] [] σ1 σ2 (lw_c41 N xs Ln rc v3 σ1 σ2) := by
  unfold lw_c41
  refine V2_aload_n 1 X dL_law_2003 rfl rfl ?_
  refine V2_aload_n 0 X dL_law_2004 rfl rfl ?_
  refine V2_iload_n 3 X dL_law_2005 rfl rfl ?_
  refine V2_iconst (v := 1) X dL_law_2006 (by decide) ?_
  refine V2_iadd X dL_law_2007 ?_
  refine V2_sld X dL_law_2008 ?_
  refine V2_callI1 [.int (xs (v3 + 1).toNatClampNeg)] [] X dL_law_2009 (kX11_image x.2.1 z1 hZ1 N 0 hk1 (xs (v3 + 1).toNatClampNeg) σ1) co11 hk1 gcL_188 hyL_X11_image rfl ⟨by decide, by decide⟩ rfl (Nat.le_of_ble_eq_true rfl) hcr (fun r1 s2 => ?_)
  refine V2_aload_n 2 X dL_law_2012 rfl rfl ?_
  refine V2_aload_n 0 X dL_law_2013 rfl rfl ?_
  refine V2_iload_n 3 X dL_law_2014 rfl rfl ?_
  refine V2_iconst (v := 1) X dL_law_2015 (by decide) ?_
  refine V2_iadd X dL_law_2016 ?_
  refine V2_sld X dL_law_2017 ?_
  refine V2_callI2 [.int (xs (v3 + 1).toNatClampNeg)] [.int r1] X dL_law_2018 (kX12_image x.2.1 z2 hZ2 N (xs (v3 + 1).toNatClampNeg) σ2) co12 hk2 gcL_192 hyL_X12_image rfl ⟨by decide, by decide⟩ rfl (Nat.le_of_ble_eq_true rfl) hcr (fun r3 s4 => ?_)
  refine V2_icmp_eq (tgt := 2049) X dL_law_2021 (by decide) ?_ ?_
  · exact hrec v3 s2 s4
  · refine V2_iconst (v := 0) X dL_law_2024 (by decide) ?_
    exact fun q => absurd q (by decide)
set_option maxRecDepth 100000 in
set_option maxHeartbeats 4000000 in
theorem lv_c42 {x : Cx} {z z1 z2 : Sx} {b Ln cn sn : Nat} {xs : Nat → Int32} {Q : State → Prop} (X : X2 x z z1 z2 code 4 20 487 b Ln xs) (hZ1 : z1.2.2.2.1 = kdC) (hZ2 : z2.2.2.2.1 = kdM) (hk1 : z1.2.2.2.1 0 = (11, 0)) (hk2 : z2.2.2.2.1 0 = (12, 0)) (hcr : ∀ R : Room, (match x with | (_, _, _, R', _) => R') = R → cn ≤ R.cells ∧ sn ≤ R.slots) (N : Nat) (rc : Int32 → Mem → Mem → Option Int32) (hrec : ∀ (v3 : Int32) (σ1 σ2 : Mem), V2 x z z1 z2 4 cn sn Q 2049 [(0, .ref b), (1, .ref (z1.2.2.1 0)), (2, .ref (z2.2.2.1 0)), (3, .int v3)] [] σ1 σ2 (rc v3 σ1 σ2)) (v3 : Int32) (σ1 σ2 : Mem) : V2 x z z1 z2 4 cn sn Q 2026 [(0, .ref b), (1, .ref (z1.2.2.1 0)), (2, .ref (z2.2.2.1 0)), (3, .int v3)] [] σ1 σ2 (lw_c42 N xs Ln rc v3 σ1 σ2) := by
  unfold lw_c42
  refine V2_aload_n 1 X dL_law_2026 rfl rfl ?_
  refine V2_aload_n 0 X dL_law_2027 rfl rfl ?_
  refine V2_iload_n 3 X dL_law_2028 rfl rfl ?_
  refine V2_iconst (v := 1) X dL_law_2029 (by decide) ?_
  refine V2_iadd X dL_law_2030 ?_
  refine V2_sld X dL_law_2031 ?_
  refine V2_callI1 [.int (xs (v3 + 1).toNatClampNeg)] [] X dL_law_2032 (kX11_again x.2.1 z1 hZ1 N 0 hk1 (xs (v3 + 1).toNatClampNeg) σ1) co11 hk1 gcL_193 hyL_X11_again rfl ⟨by decide, by decide⟩ rfl (Nat.le_of_ble_eq_true rfl) hcr (fun r1 s2 => ?_)
  refine V2_aload_n 2 X dL_law_2035 rfl rfl ?_
  refine V2_aload_n 0 X dL_law_2036 rfl rfl ?_
  refine V2_iload_n 3 X dL_law_2037 rfl rfl ?_
  refine V2_iconst (v := 1) X dL_law_2038 (by decide) ?_
  refine V2_iadd X dL_law_2039 ?_
  refine V2_sld X dL_law_2040 ?_
  refine V2_callI2 [.int (xs (v3 + 1).toNatClampNeg)] [.int r1] X dL_law_2041 (kX12_again x.2.1 z2 hZ2 N (xs (v3 + 1).toNatClampNeg) σ2) co12 hk2 gcL_196 hyL_X12_again rfl ⟨by decide, by decide⟩ rfl (Nat.le_of_ble_eq_true rfl) hcr (fun r3 s4 => ?_)
  refine V2_icmp_eq (tgt := 2049) X dL_law_2044 (by decide) ?_ ?_
  · exact hrec v3 s2 s4
  · refine V2_iconst (v := 0) X dL_law_2047 (by decide) ?_
    exact fun q => absurd q (by decide)
