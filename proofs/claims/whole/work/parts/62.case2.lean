/-! CASES OF THE LAW, MORE -/
theorem g_law_26 {Φ : q_Fx} {Z : Program → Env → State → MethodId → Array Value → List Frame → State → Prop} {i kc ks : Nat} {h : q_Hp} {W m : q_W} {O : q_O} {P : q_P} (K : q_Lk Φ h.R h.n) (inv : q_inv i h W O m P) (hi : 4 * i + 4 ≤ Φ.L) (hL : Φ.L ≤ 2048) (G : q_goes Φ Z i (i + 1) kc ks) : q_G Φ false cL_law RL mL_law Z 1694 (q_L0 i) [] h (kc + 4) (ks + 24) := by
  obtain ⟨C, M, s, H⟩ := inv
  obtain ⟨⟨N, hN, a, ⟨τ, b⟩, k⟩, dd⟩ := id s
  have hcc : i ≤ 600 := by omega
  have v := k.2.2.2.2.2.2.2
  refine q_aload_n dL_law_1694 rfl ?_
  refine q_aload_n dL_law_1695 rfl ?_
  refine q_iload dL_law_1696 rfl ?_
  refine q_iconst (v := nI 1) dL_law_1698 (by decide) ?_
  refine q_iaddN dL_law_1699 ?_
  refine q_sldN (by omega) hL dL_law_1700 ?_
  refine q_aload_n dL_law_1701 rfl ?_
  refine q_callH (kc := kc + 3) (ks := ks + 18) (g_L_fitnessFromStart (h := h) K C  (d := Φ.xs (4 * i + 1))) wL_fitnessFromStart kL_244 sL_fitnessFromStart (by decide) rfl rfl (Nat.le_of_ble_eq_true rfl) dL_law_1702 rfl rfl (fun E h9 q9 => by obtain ⟨_, e9, _⟩ := q9; cases e9) (fun v1 h1 hq => ?_)
  obtain ⟨a1, e1, a3, ka, f1, hn, hz⟩ := j_fitnessFromStart C M s a b k dd H hcc hq
  cases e1
  have K1 := f1.Lk K
  have M1 := f1.mr M
  refine q_istore (L' := [some (.ref 0), some (.ref 1), some (.ref 1061), some (.ref 1074), some (.ref 1075), some (.int (nI (4 * i))), some (.int (nI a1)), none, none, none]) dL_law_1705 rfl (by decide) rfl ?_
  refine q_aload_n dL_law_1707 rfl ?_
  refine q_aload_n dL_law_1708 rfl ?_
  refine q_iload dL_law_1709 rfl ?_
  refine q_iconst (v := nI 1) dL_law_1711 (by decide) ?_
  refine q_iaddN dL_law_1712 ?_
  refine q_sldN (by omega) hL dL_law_1713 ?_
  refine q_vR (kc := kc + 3) (ks := ks + 18) (g_X10_fitnessFromStart (h := h1) K1 M1 v  (d := Φ.xs (4 * i + 1))) wX10_fitnessFromStart kL_246 iX10_fitnessFromStart eX10_fitnessFromStart rfl rfl (by decide) (K1.le (by decide)) (by decide) rfl rfl (Nat.le_of_ble_eq_true rfl) dL_law_1714 rfl rfl ?_
  intro v2 h2 hp2
  obtain ⟨b1, rfl, e12, eJ, gm, nx⟩ := q_joint (h := h) q_kd1 ka hn hz hp2
  refine q_istore (L' := [some (.ref 0), some (.ref 1), some (.ref 1061), some (.ref 1074), some (.ref 1075), some (.int (nI (4 * i))), some (.int (nI a1)), some (.int b1), none, none]) dL_law_1717 rfl (by decide) rfl ?_
  exact q_tail (K1.gm gm) a3 e12 eJ nx G (by omega) (by omega) dL_law_1719 dL_law_1720 dL_law_1723 dL_law_1725 dL_law_1730 dL_law_1732 dL_law_1735 dL_law_1736 dL_law_1737 dL_law_1738 dL_law_1740 dL_law_1741 dL_law_1742 dL_law_1747 (by decide)
theorem g_law_27 {Φ : q_Fx} {Z : Program → Env → State → MethodId → Array Value → List Frame → State → Prop} {i kc ks : Nat} {h : q_Hp} {W m : q_W} {O : q_O} {P : q_P} (K : q_Lk Φ h.R h.n) (inv : q_inv i h W O m P) (hi : 4 * i + 4 ≤ Φ.L) (hL : Φ.L ≤ 2048) (G : q_goes Φ Z i (i + 1) kc ks) : q_G Φ false cL_law RL mL_law Z 1750 (q_L0 i) [] h (kc + 4) (ks + 24) := by
  obtain ⟨C, M, s, H⟩ := inv
  obtain ⟨⟨N, hN, a, ⟨τ, b⟩, k⟩, dd⟩ := id s
  have hcc : i ≤ 600 := by omega
  have v := k.2.2.2.2.2.2.2
  refine q_aload_n dL_law_1750 rfl ?_
  refine q_aload_n dL_law_1751 rfl ?_
  refine q_iload dL_law_1752 rfl ?_
  refine q_iconst (v := nI 1) dL_law_1754 (by decide) ?_
  refine q_iaddN dL_law_1755 ?_
  refine q_sldN (by omega) hL dL_law_1756 ?_
  refine q_aload_n dL_law_1757 rfl ?_
  refine q_callH (kc := kc + 3) (ks := ks + 18) (g_L_fatigueOn (h := h) K C  (d := Φ.xs (4 * i + 1))) wL_fatigueOn kL_247 sL_fatigueOn (by decide) rfl rfl (Nat.le_of_ble_eq_true rfl) dL_law_1758 rfl rfl (fun E h9 q9 => by obtain ⟨_, e9, _⟩ := q9; cases e9) (fun v1 h1 hq => ?_)
  obtain ⟨a1, e1, a3, ka, f1, hn, hz⟩ := j_fatigueOn C M s a b k dd H hcc hq
  cases e1
  have K1 := f1.Lk K
  have M1 := f1.mr M
  refine q_istore (L' := [some (.ref 0), some (.ref 1), some (.ref 1061), some (.ref 1074), some (.ref 1075), some (.int (nI (4 * i))), some (.int (nI a1)), none, none, none]) dL_law_1761 rfl (by decide) rfl ?_
  refine q_aload_n dL_law_1763 rfl ?_
  refine q_aload_n dL_law_1764 rfl ?_
  refine q_iload dL_law_1765 rfl ?_
  refine q_iconst (v := nI 1) dL_law_1767 (by decide) ?_
  refine q_iaddN dL_law_1768 ?_
  refine q_sldN (by omega) hL dL_law_1769 ?_
  refine q_vR (kc := kc + 3) (ks := ks + 18) (g_X10_fatigueOn (h := h1) K1 M1 v  (d := Φ.xs (4 * i + 1))) wX10_fatigueOn kL_249 iX10_fatigueOn eX10_fatigueOn rfl rfl (by decide) (K1.le (by decide)) (by decide) rfl rfl (Nat.le_of_ble_eq_true rfl) dL_law_1770 rfl rfl ?_
  intro v2 h2 hp2
  obtain ⟨b1, rfl, e12, eJ, gm, nx⟩ := q_joint (h := h) q_kd1 ka hn hz hp2
  refine q_istore (L' := [some (.ref 0), some (.ref 1), some (.ref 1061), some (.ref 1074), some (.ref 1075), some (.int (nI (4 * i))), some (.int (nI a1)), some (.int b1), none, none]) dL_law_1773 rfl (by decide) rfl ?_
  exact q_tail (K1.gm gm) a3 e12 eJ nx G (by omega) (by omega) dL_law_1775 dL_law_1776 dL_law_1779 dL_law_1781 dL_law_1786 dL_law_1788 dL_law_1791 dL_law_1792 dL_law_1793 dL_law_1794 dL_law_1796 dL_law_1797 dL_law_1798 dL_law_1803 (by decide)
theorem g_law_28 {Φ : q_Fx} {Z : Program → Env → State → MethodId → Array Value → List Frame → State → Prop} {i kc ks : Nat} {h : q_Hp} {W m : q_W} {O : q_O} {P : q_P} (K : q_Lk Φ h.R h.n) (inv : q_inv i h W O m P) (hi : 4 * i + 4 ≤ Φ.L) (hL : Φ.L ≤ 2048) (G : q_goes Φ Z i (i + 1) kc ks) : q_G Φ false cL_law RL mL_law Z 1806 (q_L0 i) [] h (kc + 4) (ks + 24) := by
  obtain ⟨C, M, s, H⟩ := inv
  obtain ⟨⟨N, hN, a, ⟨τ, b⟩, k⟩, dd⟩ := id s
  have hcc : i ≤ 600 := by omega
  have v := k.2.2.2.2.2.2.2
  refine q_aload_n dL_law_1806 rfl ?_
  refine q_aload_n dL_law_1807 rfl ?_
  refine q_iload dL_law_1808 rfl ?_
  refine q_iconst (v := nI 1) dL_law_1810 (by decide) ?_
  refine q_iaddN dL_law_1811 ?_
  refine q_sldN (by omega) hL dL_law_1812 ?_
  refine q_aload_n dL_law_1813 rfl ?_
  refine q_callH (kc := kc + 3) (ks := ks + 18) (g_L_fatigueFromStart (h := h) K C  (d := Φ.xs (4 * i + 1))) wL_fatigueFromStart kL_250 sL_fatigueFromStart (by decide) rfl rfl (Nat.le_of_ble_eq_true rfl) dL_law_1814 rfl rfl (fun E h9 q9 => by obtain ⟨_, e9, _⟩ := q9; cases e9) (fun v1 h1 hq => ?_)
  obtain ⟨a1, e1, a3, ka, f1, hn, hz⟩ := j_fatigueFromStart C M s a b k dd H hcc hq
  cases e1
  have K1 := f1.Lk K
  have M1 := f1.mr M
  refine q_istore (L' := [some (.ref 0), some (.ref 1), some (.ref 1061), some (.ref 1074), some (.ref 1075), some (.int (nI (4 * i))), some (.int (nI a1)), none, none, none]) dL_law_1817 rfl (by decide) rfl ?_
  refine q_aload_n dL_law_1819 rfl ?_
  refine q_aload_n dL_law_1820 rfl ?_
  refine q_iload dL_law_1821 rfl ?_
  refine q_iconst (v := nI 1) dL_law_1823 (by decide) ?_
  refine q_iaddN dL_law_1824 ?_
  refine q_sldN (by omega) hL dL_law_1825 ?_
  refine q_vR (kc := kc + 3) (ks := ks + 18) (g_X10_fatigueFromStart (h := h1) K1 M1 v  (d := Φ.xs (4 * i + 1))) wX10_fatigueFromStart kL_252 iX10_fatigueFromStart eX10_fatigueFromStart rfl rfl (by decide) (K1.le (by decide)) (by decide) rfl rfl (Nat.le_of_ble_eq_true rfl) dL_law_1826 rfl rfl ?_
  intro v2 h2 hp2
  obtain ⟨b1, rfl, e12, eJ, gm, nx⟩ := q_joint (h := h) q_kd1 ka hn hz hp2
  refine q_istore (L' := [some (.ref 0), some (.ref 1), some (.ref 1061), some (.ref 1074), some (.ref 1075), some (.int (nI (4 * i))), some (.int (nI a1)), some (.int b1), none, none]) dL_law_1829 rfl (by decide) rfl ?_
  exact q_tail (K1.gm gm) a3 e12 eJ nx G (by omega) (by omega) dL_law_1831 dL_law_1832 dL_law_1835 dL_law_1837 dL_law_1842 dL_law_1844 dL_law_1847 dL_law_1848 dL_law_1849 dL_law_1850 dL_law_1852 dL_law_1853 dL_law_1854 dL_law_1859 (by decide)
theorem g_law_29 {Φ : q_Fx} {Z : Program → Env → State → MethodId → Array Value → List Frame → State → Prop} {i kc ks : Nat} {h : q_Hp} {W m : q_W} {O : q_O} {P : q_P} (K : q_Lk Φ h.R h.n) (inv : q_inv i h W O m P) (hi : 4 * i + 4 ≤ Φ.L) (hL : Φ.L ≤ 2048) (G : q_goes Φ Z i (i + 1) kc ks) : q_G Φ false cL_law RL mL_law Z 1862 (q_L0 i) [] h (kc + 4) (ks + 24) := by
  obtain ⟨C, M, s, H⟩ := inv
  obtain ⟨⟨N, hN, a, ⟨τ, b⟩, k⟩, dd⟩ := id s
  have hcc : i ≤ 600 := by omega
  have v := k.2.2.2.2.2.2.2
  refine q_aload_n dL_law_1862 rfl ?_
  refine q_aload_n dL_law_1863 rfl ?_
  refine q_iload dL_law_1864 rfl ?_
  refine q_iconst (v := nI 1) dL_law_1866 (by decide) ?_
  refine q_iaddN dL_law_1867 ?_
  refine q_sldN (by omega) hL dL_law_1868 ?_
  refine q_aload_n dL_law_1869 rfl ?_
  refine q_callH (kc := kc + 3) (ks := ks + 18) (g_L_formOn (h := h) K C  (d := Φ.xs (4 * i + 1))) wL_formOn kL_253 sL_formOn (by decide) rfl rfl (Nat.le_of_ble_eq_true rfl) dL_law_1870 rfl rfl (fun E h9 q9 => by obtain ⟨_, e9, _⟩ := q9; cases e9) (fun v1 h1 hq => ?_)
  obtain ⟨a1, e1, a3, ka, f1, hn, hz⟩ := j_formOn C M s a b k dd H hcc hq
  cases e1
  have K1 := f1.Lk K
  have M1 := f1.mr M
  refine q_istore (L' := [some (.ref 0), some (.ref 1), some (.ref 1061), some (.ref 1074), some (.ref 1075), some (.int (nI (4 * i))), some (.int (nI a1)), none, none, none]) dL_law_1873 rfl (by decide) rfl ?_
  refine q_aload_n dL_law_1875 rfl ?_
  refine q_aload_n dL_law_1876 rfl ?_
  refine q_iload dL_law_1877 rfl ?_
  refine q_iconst (v := nI 1) dL_law_1879 (by decide) ?_
  refine q_iaddN dL_law_1880 ?_
  refine q_sldN (by omega) hL dL_law_1881 ?_
  refine q_vR (kc := kc + 3) (ks := ks + 18) (g_X10_formOn (h := h1) K1 M1 v  (d := Φ.xs (4 * i + 1))) wX10_formOn kL_255 iX10_formOn eX10_formOn rfl rfl (by decide) (K1.le (by decide)) (by decide) rfl rfl (Nat.le_of_ble_eq_true rfl) dL_law_1882 rfl rfl ?_
  intro v2 h2 hp2
  obtain ⟨b1, rfl, e12, eJ, gm, nx⟩ := q_joint (h := h) q_kd1 ka hn hz hp2
  refine q_istore (L' := [some (.ref 0), some (.ref 1), some (.ref 1061), some (.ref 1074), some (.ref 1075), some (.int (nI (4 * i))), some (.int (nI a1)), some (.int b1), none, none]) dL_law_1885 rfl (by decide) rfl ?_
  exact q_tail (K1.gm gm) a3 e12 eJ nx G (by omega) (by omega) dL_law_1887 dL_law_1888 dL_law_1891 dL_law_1893 dL_law_1898 dL_law_1900 dL_law_1903 dL_law_1904 dL_law_1905 dL_law_1906 dL_law_1908 dL_law_1909 dL_law_1910 dL_law_1915 (by decide)
theorem g_law_30 {Φ : q_Fx} {Z : Program → Env → State → MethodId → Array Value → List Frame → State → Prop} {i kc ks : Nat} {h : q_Hp} {W m : q_W} {O : q_O} {P : q_P} (K : q_Lk Φ h.R h.n) (inv : q_inv i h W O m P) (hi : 4 * i + 4 ≤ Φ.L) (hL : Φ.L ≤ 2048) (G : q_goes Φ Z i (i + 1) kc ks) : q_G Φ false cL_law RL mL_law Z 1918 (q_L0 i) [] h (kc + 4) (ks + 24) := by
  obtain ⟨C, M, s, H⟩ := inv
  obtain ⟨⟨N, hN, a, ⟨τ, b⟩, k⟩, dd⟩ := id s
  have hcc : i ≤ 600 := by omega
  have v := k.2.2.2.2.2.2.2
  refine q_aload_n dL_law_1918 rfl ?_
  refine q_vR (kc := kc + 4) (ks := ks + 24) (g_X9_bestFormDay (h := h) K C) wX9_bestFormDay kL_256 iX9_bestFormDay eX9_bestFormDay rfl rfl (by decide) (K.le (by decide)) (by decide) rfl rfl (Nat.le_of_ble_eq_true rfl) dL_law_1919 rfl rfl ?_
  intro v1 h1 hp
  obtain ⟨x1, rfl, ex, f1, hh⟩ := j_bestFormDay C M s a b k dd H hcc hp
  have K1 := f1.Lk K
  have M1 := f1.mr M
  refine q_aload_n dL_law_1922 rfl ?_
  refine q_vR (kc := kc + 4) (ks := ks + 24) (g_X10_bestFormDay (h := h1) K1 M1 v) wX10_bestFormDay kL_259 iX10_bestFormDay eX10_bestFormDay rfl rfl (by decide) (K1.le (by decide)) (by decide) rfl rfl (Nat.le_of_ble_eq_true rfl) dL_law_1923 rfl rfl ?_
  intro v2 h2 hp2
  obtain ⟨rfl, gm, nx⟩ := q_joint0 (h := h) hh hp2
  exact q_icmp_eq (tgt := 2788) dL_law_1926 rfl (fun _ => q_to (G h2 _ _ nx (K1.gm gm) (by omega) (by omega)) ⟨rfl, rfl, rfl, rfl, rfl, rfl, trivial⟩ rfl) (fun e => absurd ex e)
theorem g_law_31 {Φ : q_Fx} {Z : Program → Env → State → MethodId → Array Value → List Frame → State → Prop} {i kc ks : Nat} {h : q_Hp} {W m : q_W} {O : q_O} {P : q_P} (K : q_Lk Φ h.R h.n) (inv : q_inv i h W O m P) (hi : 4 * i + 4 ≤ Φ.L) (hL : Φ.L ≤ 2048) (G : q_goes Φ Z i (i + 1) kc ks) : q_G Φ false cL_law RL mL_law Z 1931 (q_L0 i) [] h (kc + 4) (ks + 24) := by
  obtain ⟨C, M, s, H⟩ := inv
  obtain ⟨⟨N, hN, a, ⟨τ, b⟩, k⟩, dd⟩ := id s
  have hcc : i ≤ 600 := by omega
  have v := k.2.2.2.2.2.2.2
  refine q_aload_n dL_law_1931 rfl ?_
  refine q_aload_n dL_law_1932 rfl ?_
  refine q_iload dL_law_1933 rfl ?_
  refine q_iconst (v := nI 1) dL_law_1935 (by decide) ?_
  refine q_iaddN dL_law_1936 ?_
  refine q_sldN (by omega) hL dL_law_1937 ?_
  refine q_aload_n dL_law_1938 rfl ?_
  refine q_callH (kc := kc + 2) (ks := ks + 12) (g_L_daysToForm (h := h) K C  (x := Φ.xs (4 * i + 1))) wL_daysToForm kL_260 sL_daysToForm (by decide) rfl rfl (Nat.le_of_ble_eq_true rfl) dL_law_1939 rfl rfl (fun E h9 q9 => by obtain ⟨_, e9, _⟩ := q9; cases e9) (fun v1 h1 hq => ?_)
  obtain ⟨a1, e1, a3, ka, f1, hn, hz⟩ := j_daysToForm C M s a b k dd H hcc hq
  cases e1
  have K1 := f1.Lk K
  have M1 := f1.mr M
  refine q_istore (L' := [some (.ref 0), some (.ref 1), some (.ref 1061), some (.ref 1074), some (.ref 1075), some (.int (nI (4 * i))), some (.int (nI a1)), none, none, none]) dL_law_1942 rfl (by decide) rfl ?_
  refine q_aload_n dL_law_1944 rfl ?_
  refine q_aload_n dL_law_1945 rfl ?_
  refine q_iload dL_law_1946 rfl ?_
  refine q_iconst (v := nI 1) dL_law_1948 (by decide) ?_
  refine q_iaddN dL_law_1949 ?_
  refine q_sldN (by omega) hL dL_law_1950 ?_
  refine q_vR (kc := kc + 2) (ks := ks + 12) (g_X10_daysToForm (h := h1) K1 M1 v  (x := Φ.xs (4 * i + 1))) wX10_daysToForm kL_262 iX10_daysToForm eX10_daysToForm rfl rfl (by decide) (K1.le (by decide)) (by decide) rfl rfl (Nat.le_of_ble_eq_true rfl) dL_law_1951 rfl rfl ?_
  intro v2 h2 hp2
  obtain ⟨b1, rfl, e12, eJ, gm, nx⟩ := q_joint (h := h) q_kd2 ka hn hz hp2
  refine q_istore (L' := [some (.ref 0), some (.ref 1), some (.ref 1061), some (.ref 1074), some (.ref 1075), some (.int (nI (4 * i))), some (.int (nI a1)), some (.int b1), none, none]) dL_law_1954 rfl (by decide) rfl ?_
  exact q_tail (K1.gm gm) a3 e12 eJ nx G (by omega) (by omega) dL_law_1956 dL_law_1957 dL_law_1960 dL_law_1962 dL_law_1967 dL_law_1969 dL_law_1972 dL_law_1973 dL_law_1974 dL_law_1975 dL_law_1977 dL_law_1978 dL_law_1979 dL_law_1984 (by decide)
theorem g_law_32 {Φ : q_Fx} {Z : Program → Env → State → MethodId → Array Value → List Frame → State → Prop} {i kc ks : Nat} {h : q_Hp} {W m : q_W} {O : q_O} {P : q_P} (K : q_Lk Φ h.R h.n) (inv : q_inv i h W O m P) (hi : 4 * i + 4 ≤ Φ.L) (hL : Φ.L ≤ 2048) (G : q_goes Φ Z i (i + 1) kc ks) : q_G Φ false cL_law RL mL_law Z 1987 (q_L0 i) [] h (kc + 4) (ks + 24) := by
  obtain ⟨C, M, s, H⟩ := inv
  obtain ⟨⟨N, hN, a, ⟨τ, b⟩, k⟩, dd⟩ := id s
  have hcc : i ≤ 600 := by omega
  have v := k.2.2.2.2.2.2.2
  refine q_aload_n dL_law_1987 rfl ?_
  refine q_aload_n dL_law_1988 rfl ?_
  refine q_iload dL_law_1989 rfl ?_
  refine q_iconst (v := nI 1) dL_law_1991 (by decide) ?_
  refine q_iaddN dL_law_1992 ?_
  refine q_sldN (by omega) hL dL_law_1993 ?_
  refine q_aload_n dL_law_1994 rfl ?_
  refine q_callH (kc := kc + 2) (ks := ks + 12) (g_L_bestDays (h := h) K C  (n := Φ.xs (4 * i + 1))) wL_bestDays kL_263 sL_bestDays (by decide) rfl rfl (Nat.le_of_ble_eq_true rfl) dL_law_1995 rfl rfl (fun E h9 q9 => by obtain ⟨_, e9, _⟩ := q9; cases e9) (fun v1 h1 hq => ?_)
  obtain ⟨a1, e1, a3, ka, f1, hn, hz⟩ := j_bestDays C M s a b k dd H hcc hq
  cases e1
  have K1 := f1.Lk K
  have M1 := f1.mr M
  refine q_istore (L' := [some (.ref 0), some (.ref 1), some (.ref 1061), some (.ref 1074), some (.ref 1075), some (.int (nI (4 * i))), some (.int (nI a1)), none, none, none]) dL_law_1998 rfl (by decide) rfl ?_
  refine q_aload_n dL_law_2000 rfl ?_
  refine q_aload_n dL_law_2001 rfl ?_
  refine q_iload dL_law_2002 rfl ?_
  refine q_iconst (v := nI 1) dL_law_2004 (by decide) ?_
  refine q_iaddN dL_law_2005 ?_
  refine q_sldN (by omega) hL dL_law_2006 ?_
  refine q_vR (kc := kc + 2) (ks := ks + 12) (g_X10_bestDays (h := h1) K1 M1 v  (n := Φ.xs (4 * i + 1))) wX10_bestDays kL_265 iX10_bestDays eX10_bestDays rfl rfl (by decide) (K1.le (by decide)) (by decide) rfl rfl (Nat.le_of_ble_eq_true rfl) dL_law_2007 rfl rfl ?_
  intro v2 h2 hp2
  obtain ⟨b1, rfl, e12, eJ, gm, nx⟩ := q_joint (h := h) q_kd2 ka hn hz hp2
  refine q_istore (L' := [some (.ref 0), some (.ref 1), some (.ref 1061), some (.ref 1074), some (.ref 1075), some (.int (nI (4 * i))), some (.int (nI a1)), some (.int b1), none, none]) dL_law_2010 rfl (by decide) rfl ?_
  exact q_tail (K1.gm gm) a3 e12 eJ nx G (by omega) (by omega) dL_law_2012 dL_law_2013 dL_law_2016 dL_law_2018 dL_law_2023 dL_law_2025 dL_law_2028 dL_law_2029 dL_law_2030 dL_law_2031 dL_law_2033 dL_law_2034 dL_law_2035 dL_law_2040 (by decide)
theorem g_law_33 {Φ : q_Fx} {Z : Program → Env → State → MethodId → Array Value → List Frame → State → Prop} {i kc ks : Nat} {h : q_Hp} {W m : q_W} {O : q_O} {P : q_P} (K : q_Lk Φ h.R h.n) (inv : q_inv i h W O m P) (hi : 4 * i + 4 ≤ Φ.L) (hL : Φ.L ≤ 2048) (G : q_goes Φ Z i (i + 1) kc ks) : q_G Φ false cL_law RL mL_law Z 2043 (q_L0 i) [] h (kc + 4) (ks + 24) := by
  obtain ⟨C, M, s, H⟩ := inv
  obtain ⟨⟨N, hN, a, ⟨τ, b⟩, k⟩, dd⟩ := id s
  have hcc : i ≤ 600 := by omega
  have v := k.2.2.2.2.2.2.2
  refine q_aload_n dL_law_2043 rfl ?_
  refine q_aload_n dL_law_2044 rfl ?_
  refine q_iload dL_law_2045 rfl ?_
  refine q_iconst (v := nI 1) dL_law_2047 (by decide) ?_
  refine q_iaddN dL_law_2048 ?_
  refine q_sldN (by omega) hL dL_law_2049 ?_
  refine q_aload_n dL_law_2050 rfl ?_
  refine q_callH (kc := kc + 2) (ks := ks + 12) (g_L_bestDaysByTrying (h := h) K C  (n := Φ.xs (4 * i + 1))) wL_bestDaysByTrying kL_266 sL_bestDaysByTrying (by decide) rfl rfl (Nat.le_of_ble_eq_true rfl) dL_law_2051 rfl rfl (fun E h9 q9 => by obtain ⟨_, e9, _⟩ := q9; cases e9) (fun v1 h1 hq => ?_)
  obtain ⟨a1, e1, a3, ka, f1, hn, hz⟩ := j_bestDaysByTrying C M s a b k dd H hcc hq
  cases e1
  have K1 := f1.Lk K
  have M1 := f1.mr M
  refine q_istore (L' := [some (.ref 0), some (.ref 1), some (.ref 1061), some (.ref 1074), some (.ref 1075), some (.int (nI (4 * i))), some (.int (nI a1)), none, none, none]) dL_law_2054 rfl (by decide) rfl ?_
  refine q_aload_n dL_law_2056 rfl ?_
  refine q_aload_n dL_law_2057 rfl ?_
  refine q_iload dL_law_2058 rfl ?_
  refine q_iconst (v := nI 1) dL_law_2060 (by decide) ?_
  refine q_iaddN dL_law_2061 ?_
  refine q_sldN (by omega) hL dL_law_2062 ?_
  refine q_vR (kc := kc + 2) (ks := ks + 12) (g_X10_bestDaysByTrying (h := h1) K1 M1 v  (n := Φ.xs (4 * i + 1))) wX10_bestDaysByTrying kL_268 iX10_bestDaysByTrying eX10_bestDaysByTrying rfl rfl (by decide) (K1.le (by decide)) (by decide) rfl rfl (Nat.le_of_ble_eq_true rfl) dL_law_2063 rfl rfl ?_
  intro v2 h2 hp2
  obtain ⟨b1, rfl, e12, eJ, gm, nx⟩ := q_joint (h := h) q_kd2 ka hn hz hp2
  refine q_istore (L' := [some (.ref 0), some (.ref 1), some (.ref 1061), some (.ref 1074), some (.ref 1075), some (.int (nI (4 * i))), some (.int (nI a1)), some (.int b1), none, none]) dL_law_2066 rfl (by decide) rfl ?_
  exact q_tail (K1.gm gm) a3 e12 eJ nx G (by omega) (by omega) dL_law_2068 dL_law_2069 dL_law_2072 dL_law_2074 dL_law_2079 dL_law_2081 dL_law_2084 dL_law_2085 dL_law_2086 dL_law_2087 dL_law_2089 dL_law_2090 dL_law_2091 dL_law_2096 (by decide)
theorem g_law_34 {Φ : q_Fx} {Z : Program → Env → State → MethodId → Array Value → List Frame → State → Prop} {i kc ks : Nat} {h : q_Hp} {W m : q_W} {O : q_O} {P : q_P} (K : q_Lk Φ h.R h.n) (inv : q_inv i h W O m P) (hi : 4 * i + 4 ≤ Φ.L) (hL : Φ.L ≤ 2048) (G : q_goes Φ Z i (i + 1) kc ks) : q_G Φ false cL_law RL mL_law Z 2099 (q_L0 i) [] h (kc + 4) (ks + 24) := by
  obtain ⟨C, M, s, H⟩ := inv
  obtain ⟨⟨N, hN, a, ⟨τ, b⟩, k⟩, dd⟩ := id s
  have hcc : i ≤ 600 := by omega
  have v := k.2.2.2.2.2.2.2
  refine q_aload_n dL_law_2099 rfl ?_
  refine q_aload_n dL_law_2100 rfl ?_
  refine q_iload dL_law_2101 rfl ?_
  refine q_iconst (v := nI 1) dL_law_2103 (by decide) ?_
  refine q_iaddN dL_law_2104 ?_
  refine q_sldN (by omega) hL dL_law_2105 ?_
  refine q_aload_n dL_law_2106 rfl ?_
  refine q_callH (kc := kc + 2) (ks := ks + 12) (g_L_bestDaysStart (h := h) K C  (n := Φ.xs (4 * i + 1))) wL_bestDaysStart kL_269 sL_bestDaysStart (by decide) rfl rfl (Nat.le_of_ble_eq_true rfl) dL_law_2107 rfl rfl (fun E h9 q9 => by obtain ⟨_, e9, _⟩ := q9; cases e9) (fun v1 h1 hq => ?_)
  obtain ⟨a1, e1, a3, ka, f1, hn, hz⟩ := j_bestDaysStart C M s a b k dd H hcc hq
  cases e1
  have K1 := f1.Lk K
  have M1 := f1.mr M
  refine q_istore (L' := [some (.ref 0), some (.ref 1), some (.ref 1061), some (.ref 1074), some (.ref 1075), some (.int (nI (4 * i))), some (.int (nI a1)), none, none, none]) dL_law_2110 rfl (by decide) rfl ?_
  refine q_aload_n dL_law_2112 rfl ?_
  refine q_aload_n dL_law_2113 rfl ?_
  refine q_iload dL_law_2114 rfl ?_
  refine q_iconst (v := nI 1) dL_law_2116 (by decide) ?_
  refine q_iaddN dL_law_2117 ?_
  refine q_sldN (by omega) hL dL_law_2118 ?_
  refine q_vR (kc := kc + 2) (ks := ks + 12) (g_X10_bestDaysStart (h := h1) K1 M1 v  (n := Φ.xs (4 * i + 1))) wX10_bestDaysStart kL_271 iX10_bestDaysStart eX10_bestDaysStart rfl rfl (by decide) (K1.le (by decide)) (by decide) rfl rfl (Nat.le_of_ble_eq_true rfl) dL_law_2119 rfl rfl ?_
  intro v2 h2 hp2
  obtain ⟨b1, rfl, e12, eJ, gm, nx⟩ := q_joint (h := h) q_kd2 ka hn hz hp2
  refine q_istore (L' := [some (.ref 0), some (.ref 1), some (.ref 1061), some (.ref 1074), some (.ref 1075), some (.int (nI (4 * i))), some (.int (nI a1)), some (.int b1), none, none]) dL_law_2122 rfl (by decide) rfl ?_
  exact q_tail (K1.gm gm) a3 e12 eJ nx G (by omega) (by omega) dL_law_2124 dL_law_2125 dL_law_2128 dL_law_2130 dL_law_2135 dL_law_2137 dL_law_2140 dL_law_2141 dL_law_2142 dL_law_2143 dL_law_2145 dL_law_2146 dL_law_2147 dL_law_2152 (by decide)
theorem g_law_35 {Φ : q_Fx} {Z : Program → Env → State → MethodId → Array Value → List Frame → State → Prop} {i kc ks : Nat} {h : q_Hp} {W m : q_W} {O : q_O} {P : q_P} (K : q_Lk Φ h.R h.n) (inv : q_inv i h W O m P) (hi : 4 * i + 4 ≤ Φ.L) (hL : Φ.L ≤ 2048) (G : q_goes Φ Z i (i + 1) kc ks) : q_G Φ false cL_law RL mL_law Z 2155 (q_L0 i) [] h (kc + 4) (ks + 24) := by
  obtain ⟨C, M, s, H⟩ := inv
  obtain ⟨⟨N, hN, a, ⟨τ, b⟩, k⟩, dd⟩ := id s
  have hcc : i ≤ 600 := by omega
  have v := k.2.2.2.2.2.2.2
  refine q_aload_n dL_law_2155 rfl ?_
  refine q_aload_n dL_law_2156 rfl ?_
  refine q_iload dL_law_2157 rfl ?_
  refine q_iconst (v := nI 1) dL_law_2159 (by decide) ?_
  refine q_iaddN dL_law_2160 ?_
  refine q_sldN (by omega) hL dL_law_2161 ?_
  refine q_aload_n dL_law_2162 rfl ?_
  refine q_callH (kc := kc + 2) (ks := ks + 12) (g_L_bestEffort (h := h) K C C.1.2.1.1 (n := Φ.xs (4 * i + 1))) wL_bestEffort kL_272 sL_bestEffort (by decide) rfl rfl (Nat.le_of_ble_eq_true rfl) dL_law_2163 rfl rfl (fun E h9 q9 => by obtain ⟨_, e9, _⟩ := q9; cases e9) (fun v1 h1 hq => ?_)
  obtain ⟨a1, e1, a3, ka, f1, hn, hz⟩ := j_bestEffort C M s a b k dd H hcc hq
  cases e1
  have K1 := f1.Lk K
  have M1 := f1.mr M
  refine q_istore (L' := [some (.ref 0), some (.ref 1), some (.ref 1061), some (.ref 1074), some (.ref 1075), some (.int (nI (4 * i))), some (.int (nI a1)), none, none, none]) dL_law_2166 rfl (by decide) rfl ?_
  refine q_aload_n dL_law_2168 rfl ?_
  refine q_aload_n dL_law_2169 rfl ?_
  refine q_iload dL_law_2170 rfl ?_
  refine q_iconst (v := nI 1) dL_law_2172 (by decide) ?_
  refine q_iaddN dL_law_2173 ?_
  refine q_sldN (by omega) hL dL_law_2174 ?_
  refine q_vR (kc := kc + 2) (ks := ks + 12) (g_X10_bestEffort (h := h1) K1 M1 v (rk := τ) (q_rk_eq b k) (n := Φ.xs (4 * i + 1))) wX10_bestEffort kL_274 iX10_bestEffort eX10_bestEffort rfl rfl (by decide) (K1.le (by decide)) (by decide) rfl rfl (Nat.le_of_ble_eq_true rfl) dL_law_2175 rfl rfl ?_
  intro v2 h2 hp2
  obtain ⟨b1, rfl, e12, eJ, gm, nx⟩ := q_joint (h := h) q_kd2 ka hn hz hp2
  refine q_istore (L' := [some (.ref 0), some (.ref 1), some (.ref 1061), some (.ref 1074), some (.ref 1075), some (.int (nI (4 * i))), some (.int (nI a1)), some (.int b1), none, none]) dL_law_2178 rfl (by decide) rfl ?_
  exact q_tail (K1.gm gm) a3 e12 eJ nx G (by omega) (by omega) dL_law_2180 dL_law_2181 dL_law_2184 dL_law_2186 dL_law_2191 dL_law_2193 dL_law_2196 dL_law_2197 dL_law_2198 dL_law_2199 dL_law_2201 dL_law_2202 dL_law_2203 dL_law_2208 (by decide)
theorem g_law_36 {Φ : q_Fx} {Z : Program → Env → State → MethodId → Array Value → List Frame → State → Prop} {i kc ks : Nat} {h : q_Hp} {W m : q_W} {O : q_O} {P : q_P} (K : q_Lk Φ h.R h.n) (inv : q_inv i h W O m P) (hi : 4 * i + 4 ≤ Φ.L) (hL : Φ.L ≤ 2048) (G : q_goes Φ Z i (i + 1) kc ks) : q_G Φ false cL_law RL mL_law Z 2211 (q_L0 i) [] h (kc + 4) (ks + 24) := by
  obtain ⟨C, M, s, H⟩ := inv
  obtain ⟨⟨N, hN, a, ⟨τ, b⟩, k⟩, dd⟩ := id s
  have hcc : i ≤ 600 := by omega
  have v := k.2.2.2.2.2.2.2
  refine q_aload_n dL_law_2211 rfl ?_
  refine q_aload_n dL_law_2212 rfl ?_
  refine q_iload dL_law_2213 rfl ?_
  refine q_iconst (v := nI 1) dL_law_2215 (by decide) ?_
  refine q_iaddN dL_law_2216 ?_
  refine q_sldN (by omega) hL dL_law_2217 ?_
  refine q_aload_n dL_law_2218 rfl ?_
  refine q_callH (kc := kc + 2) (ks := ks + 12) (g_L_bestEffortByTrying (h := h) K C C.1.2.1.1 (n := Φ.xs (4 * i + 1))) wL_bestEffortByTrying kL_275 sL_bestEffortByTrying (by decide) rfl rfl (Nat.le_of_ble_eq_true rfl) dL_law_2219 rfl rfl (fun E h9 q9 => by obtain ⟨_, e9, _⟩ := q9; cases e9) (fun v1 h1 hq => ?_)
  obtain ⟨a1, e1, a3, ka, f1, hn, hz⟩ := j_bestEffortByTrying C M s a b k dd H hcc hq
  cases e1
  have K1 := f1.Lk K
  have M1 := f1.mr M
  refine q_istore (L' := [some (.ref 0), some (.ref 1), some (.ref 1061), some (.ref 1074), some (.ref 1075), some (.int (nI (4 * i))), some (.int (nI a1)), none, none, none]) dL_law_2222 rfl (by decide) rfl ?_
  refine q_aload_n dL_law_2224 rfl ?_
  refine q_aload_n dL_law_2225 rfl ?_
  refine q_iload dL_law_2226 rfl ?_
  refine q_iconst (v := nI 1) dL_law_2228 (by decide) ?_
  refine q_iaddN dL_law_2229 ?_
  refine q_sldN (by omega) hL dL_law_2230 ?_
  refine q_vR (kc := kc + 2) (ks := ks + 12) (g_X10_bestEffortByTrying (h := h1) K1 M1 v (rk := τ) (q_rk_eq b k) (n := Φ.xs (4 * i + 1))) wX10_bestEffortByTrying kL_277 iX10_bestEffortByTrying eX10_bestEffortByTrying rfl rfl (by decide) (K1.le (by decide)) (by decide) rfl rfl (Nat.le_of_ble_eq_true rfl) dL_law_2231 rfl rfl ?_
  intro v2 h2 hp2
  obtain ⟨b1, rfl, e12, eJ, gm, nx⟩ := q_joint (h := h) q_kd2 ka hn hz hp2
  refine q_istore (L' := [some (.ref 0), some (.ref 1), some (.ref 1061), some (.ref 1074), some (.ref 1075), some (.int (nI (4 * i))), some (.int (nI a1)), some (.int b1), none, none]) dL_law_2234 rfl (by decide) rfl ?_
  exact q_tail (K1.gm gm) a3 e12 eJ nx G (by omega) (by omega) dL_law_2236 dL_law_2237 dL_law_2240 dL_law_2242 dL_law_2247 dL_law_2249 dL_law_2252 dL_law_2253 dL_law_2254 dL_law_2255 dL_law_2257 dL_law_2258 dL_law_2259 dL_law_2264 (by decide)
theorem g_law_37 {Φ : q_Fx} {Z : Program → Env → State → MethodId → Array Value → List Frame → State → Prop} {i kc ks : Nat} {h : q_Hp} {W m : q_W} {O : q_O} {P : q_P} (K : q_Lk Φ h.R h.n) (inv : q_inv i h W O m P) (hi : 4 * i + 4 ≤ Φ.L) (hL : Φ.L ≤ 2048) (G : q_goes Φ Z i (i + 1) kc ks) : q_G Φ false cL_law RL mL_law Z 2267 (q_L0 i) [] h (kc + 4) (ks + 24) := by
  obtain ⟨C, M, s, H⟩ := inv
  obtain ⟨⟨N, hN, a, ⟨τ, b⟩, k⟩, dd⟩ := id s
  have hcc : i ≤ 600 := by omega
  have v := k.2.2.2.2.2.2.2
  refine q_aload_n dL_law_2267 rfl ?_
  refine q_aload_n dL_law_2268 rfl ?_
  refine q_iload dL_law_2269 rfl ?_
  refine q_iconst (v := nI 1) dL_law_2271 (by decide) ?_
  refine q_iaddN dL_law_2272 ?_
  refine q_sldN (by omega) hL dL_law_2273 ?_
  refine q_aload_n dL_law_2274 rfl ?_
  refine q_callH (kc := kc + 2) (ks := ks + 12) (g_L_bestEffortSession (h := h) K C C.1.2.1.1 (n := Φ.xs (4 * i + 1))) wL_bestEffortSession kL_278 sL_bestEffortSession (by decide) rfl rfl (Nat.le_of_ble_eq_true rfl) dL_law_2275 rfl rfl (fun E h9 q9 => by obtain ⟨_, e9, _⟩ := q9; cases e9) (fun v1 h1 hq => ?_)
  obtain ⟨a1, e1, a3, ka, f1, hn, hz⟩ := j_bestEffortSession C M s a b k dd H hcc hq
  cases e1
  have K1 := f1.Lk K
  have M1 := f1.mr M
  refine q_istore (L' := [some (.ref 0), some (.ref 1), some (.ref 1061), some (.ref 1074), some (.ref 1075), some (.int (nI (4 * i))), some (.int (nI a1)), none, none, none]) dL_law_2278 rfl (by decide) rfl ?_
  refine q_aload_n dL_law_2280 rfl ?_
  refine q_aload_n dL_law_2281 rfl ?_
  refine q_iload dL_law_2282 rfl ?_
  refine q_iconst (v := nI 1) dL_law_2284 (by decide) ?_
  refine q_iaddN dL_law_2285 ?_
  refine q_sldN (by omega) hL dL_law_2286 ?_
  refine q_vR (kc := kc + 2) (ks := ks + 12) (g_X10_bestEffortSession (h := h1) K1 M1 v (rk := τ) (q_rk_eq b k) (n := Φ.xs (4 * i + 1))) wX10_bestEffortSession kL_280 iX10_bestEffortSession eX10_bestEffortSession rfl rfl (by decide) (K1.le (by decide)) (by decide) rfl rfl (Nat.le_of_ble_eq_true rfl) dL_law_2287 rfl rfl ?_
  intro v2 h2 hp2
  obtain ⟨b1, rfl, e12, eJ, gm, nx⟩ := q_joint (h := h) q_kd2 ka hn hz hp2
  refine q_istore (L' := [some (.ref 0), some (.ref 1), some (.ref 1061), some (.ref 1074), some (.ref 1075), some (.int (nI (4 * i))), some (.int (nI a1)), some (.int b1), none, none]) dL_law_2290 rfl (by decide) rfl ?_
  exact q_tail (K1.gm gm) a3 e12 eJ nx G (by omega) (by omega) dL_law_2292 dL_law_2293 dL_law_2296 dL_law_2298 dL_law_2303 dL_law_2305 dL_law_2308 dL_law_2309 dL_law_2310 dL_law_2311 dL_law_2313 dL_law_2314 dL_law_2315 dL_law_2320 (by decide)
theorem g_law_38 {Φ : q_Fx} {Z : Program → Env → State → MethodId → Array Value → List Frame → State → Prop} {i kc ks : Nat} {h : q_Hp} {W m : q_W} {O : q_O} {P : q_P} (K : q_Lk Φ h.R h.n) (inv : q_inv i h W O m P) (hi : 4 * i + 4 ≤ Φ.L) (hL : Φ.L ≤ 2048) (G : q_goes Φ Z i (i + 1) kc ks) : q_G Φ false cL_law RL mL_law Z 2323 (q_L0 i) [] h (kc + 4) (ks + 24) := by
  obtain ⟨C, M, s, H⟩ := inv
  obtain ⟨⟨N, hN, a, ⟨τ, b⟩, k⟩, dd⟩ := id s
  have hcc : i ≤ 600 := by omega
  have v := k.2.2.2.2.2.2.2
  refine q_aload_n dL_law_2323 rfl ?_
  refine q_vR (kc := kc + 4) (ks := ks + 24) (g_X9_startPlan (h := h) K C) wX9_startPlan kL_281 iX9_startPlan eX9_startPlan rfl rfl (by decide) (K.le (by decide)) (by decide) rfl rfl (Nat.le_of_ble_eq_true rfl) dL_law_2324 rfl rfl ?_
  intro v1 h1 hp
  obtain ⟨x1, rfl, ex, f1, hh⟩ := j_startPlan C M s a b k dd H hcc hp
  have K1 := f1.Lk K
  have M1 := f1.mr M
  refine q_aload_n dL_law_2327 rfl ?_
  refine q_vR (kc := kc + 4) (ks := ks + 24) (g_X10_startPlan (h := h1) K1 M1 v) wX10_startPlan kL_284 iX10_startPlan eX10_startPlan rfl rfl (by decide) (K1.le (by decide)) (by decide) rfl rfl (Nat.le_of_ble_eq_true rfl) dL_law_2328 rfl rfl ?_
  intro v2 h2 hp2
  obtain ⟨rfl, gm, nx⟩ := q_joint0 (h := h) hh hp2
  exact q_icmp_eq (tgt := 2788) dL_law_2331 rfl (fun _ => q_to (G h2 _ _ nx (K1.gm gm) (by omega) (by omega)) ⟨rfl, rfl, rfl, rfl, rfl, rfl, trivial⟩ rfl) (fun e => absurd ex e)
theorem g_law_39 {Φ : q_Fx} {Z : Program → Env → State → MethodId → Array Value → List Frame → State → Prop} {i kc ks : Nat} {h : q_Hp} {W m : q_W} {O : q_O} {P : q_P} (K : q_Lk Φ h.R h.n) (inv : q_inv i h W O m P) (hi : 4 * i + 4 ≤ Φ.L) (hL : Φ.L ≤ 2048) (G : q_goes Φ Z i (i + 1) kc ks) : q_G Φ false cL_law RL mL_law Z 2336 (q_L0 i) [] h (kc + 4) (ks + 24) := by
  obtain ⟨C, M, s, H⟩ := inv
  obtain ⟨⟨N, hN, a, ⟨τ, b⟩, k⟩, dd⟩ := id s
  have hcc : i ≤ 600 := by omega
  have v := k.2.2.2.2.2.2.2
  refine q_aload_n dL_law_2336 rfl ?_
  refine q_aload_n dL_law_2337 rfl ?_
  refine q_iload dL_law_2338 rfl ?_
  refine q_iconst (v := nI 1) dL_law_2340 (by decide) ?_
  refine q_iaddN dL_law_2341 ?_
  refine q_sldN (by omega) hL dL_law_2342 ?_
  refine q_aload_n dL_law_2343 rfl ?_
  refine q_callH (kc := kc + 2) (ks := ks + 12) (g_L_addTarget (h := h) K C  (x := Φ.xs (4 * i + 1))) wL_addTarget kL_285 sL_addTarget (by decide) rfl rfl (Nat.le_of_ble_eq_true rfl) dL_law_2344 rfl rfl (fun E h9 q9 => by obtain ⟨_, e9, _⟩ := q9; cases e9) (fun v1 h1 hq => ?_)
  obtain ⟨a1, e1, a3, ka, f1, hn, hz⟩ := j_addTarget C M s a b k dd H hcc hq
  cases e1
  have K1 := f1.Lk K
  have M1 := f1.mr M
  refine q_istore (L' := [some (.ref 0), some (.ref 1), some (.ref 1061), some (.ref 1074), some (.ref 1075), some (.int (nI (4 * i))), some (.int (nI a1)), none, none, none]) dL_law_2347 rfl (by decide) rfl ?_
  refine q_aload_n dL_law_2349 rfl ?_
  refine q_aload_n dL_law_2350 rfl ?_
  refine q_iload dL_law_2351 rfl ?_
  refine q_iconst (v := nI 1) dL_law_2353 (by decide) ?_
  refine q_iaddN dL_law_2354 ?_
  refine q_sldN (by omega) hL dL_law_2355 ?_
  refine q_vR (kc := kc + 2) (ks := ks + 12) (g_X10_addTarget (h := h1) K1 M1 v  (x := Φ.xs (4 * i + 1))) wX10_addTarget kL_287 iX10_addTarget eX10_addTarget rfl rfl (by decide) (K1.le (by decide)) (by decide) rfl rfl (Nat.le_of_ble_eq_true rfl) dL_law_2356 rfl rfl ?_
  intro v2 h2 hp2
  obtain ⟨b1, rfl, e12, eJ, gm, nx⟩ := q_joint (h := h) q_kd2 ka hn hz hp2
  refine q_istore (L' := [some (.ref 0), some (.ref 1), some (.ref 1061), some (.ref 1074), some (.ref 1075), some (.int (nI (4 * i))), some (.int (nI a1)), some (.int b1), none, none]) dL_law_2359 rfl (by decide) rfl ?_
  exact q_tail (K1.gm gm) a3 e12 eJ nx G (by omega) (by omega) dL_law_2361 dL_law_2362 dL_law_2365 dL_law_2367 dL_law_2372 dL_law_2374 dL_law_2377 dL_law_2378 dL_law_2379 dL_law_2380 dL_law_2382 dL_law_2383 dL_law_2384 dL_law_2389 (by decide)
theorem g_law_40 {Φ : q_Fx} {Z : Program → Env → State → MethodId → Array Value → List Frame → State → Prop} {i kc ks : Nat} {h : q_Hp} {W m : q_W} {O : q_O} {P : q_P} (K : q_Lk Φ h.R h.n) (inv : q_inv i h W O m P) (hi : 4 * i + 4 ≤ Φ.L) (hL : Φ.L ≤ 2048) (G : q_goes Φ Z i (i + 1) kc ks) : q_G Φ false cL_law RL mL_law Z 2392 (q_L0 i) [] h (kc + 4) (ks + 24) := by
  obtain ⟨C, M, s, H⟩ := inv
  obtain ⟨⟨N, hN, a, ⟨τ, b⟩, k⟩, dd⟩ := id s
  have hcc : i ≤ 600 := by omega
  have v := k.2.2.2.2.2.2.2
  refine q_aload_n dL_law_2392 rfl ?_
  refine q_aload_n dL_law_2393 rfl ?_
  refine q_iload dL_law_2394 rfl ?_
  refine q_iconst (v := nI 1) dL_law_2396 (by decide) ?_
  refine q_iaddN dL_law_2397 ?_
  refine q_sldN (by omega) hL dL_law_2398 ?_
  refine q_aload_n dL_law_2399 rfl ?_
  refine q_callH (kc := kc + 3) (ks := ks + 18) (g_L_targetAt (h := h) K C  (p := Φ.xs (4 * i + 1))) wL_targetAt kL_288 sL_targetAt (by decide) rfl rfl (Nat.le_of_ble_eq_true rfl) dL_law_2400 rfl rfl (fun E h9 q9 => by obtain ⟨_, e9, _⟩ := q9; cases e9) (fun v1 h1 hq => ?_)
  obtain ⟨a1, e1, a3, ka, f1, hn, hz⟩ := j_targetAt C M s a b k dd H hcc hq
  cases e1
  have K1 := f1.Lk K
  have M1 := f1.mr M
  refine q_istore (L' := [some (.ref 0), some (.ref 1), some (.ref 1061), some (.ref 1074), some (.ref 1075), some (.int (nI (4 * i))), some (.int (nI a1)), none, none, none]) dL_law_2403 rfl (by decide) rfl ?_
  refine q_aload_n dL_law_2405 rfl ?_
  refine q_aload_n dL_law_2406 rfl ?_
  refine q_iload dL_law_2407 rfl ?_
  refine q_iconst (v := nI 1) dL_law_2409 (by decide) ?_
  refine q_iaddN dL_law_2410 ?_
  refine q_sldN (by omega) hL dL_law_2411 ?_
  refine q_vR (kc := kc + 3) (ks := ks + 18) (g_X10_targetAt (h := h1) K1 M1 v  (p := Φ.xs (4 * i + 1))) wX10_targetAt kL_290 iX10_targetAt eX10_targetAt rfl rfl (by decide) (K1.le (by decide)) (by decide) rfl rfl (Nat.le_of_ble_eq_true rfl) dL_law_2412 rfl rfl ?_
  intro v2 h2 hp2
  obtain ⟨b1, rfl, e12, eJ, gm, nx⟩ := q_joint (h := h) q_kd1 ka hn hz hp2
  refine q_istore (L' := [some (.ref 0), some (.ref 1), some (.ref 1061), some (.ref 1074), some (.ref 1075), some (.int (nI (4 * i))), some (.int (nI a1)), some (.int b1), none, none]) dL_law_2415 rfl (by decide) rfl ?_
  exact q_tail (K1.gm gm) a3 e12 eJ nx G (by omega) (by omega) dL_law_2417 dL_law_2418 dL_law_2421 dL_law_2423 dL_law_2428 dL_law_2430 dL_law_2433 dL_law_2434 dL_law_2435 dL_law_2436 dL_law_2438 dL_law_2439 dL_law_2440 dL_law_2445 (by decide)
theorem g_law_41 {Φ : q_Fx} {Z : Program → Env → State → MethodId → Array Value → List Frame → State → Prop} {i kc ks : Nat} {h : q_Hp} {W m : q_W} {O : q_O} {P : q_P} (K : q_Lk Φ h.R h.n) (inv : q_inv i h W O m P) (hi : 4 * i + 4 ≤ Φ.L) (hL : Φ.L ≤ 2048) (G : q_goes Φ Z i (i + 1) kc ks) : q_G Φ false cL_law RL mL_law Z 2448 (q_L0 i) [] h (kc + 4) (ks + 24) := by
  obtain ⟨C, M, s, H⟩ := inv
  obtain ⟨⟨N, hN, a, ⟨τ, b⟩, k⟩, dd⟩ := id s
  have hcc : i ≤ 600 := by omega
  have v := k.2.2.2.2.2.2.2
  refine q_aload_n dL_law_2448 rfl ?_
  refine q_aload_n dL_law_2449 rfl ?_
  refine q_callH (kc := kc + 3) (ks := ks + 18) (g_L_dueEntry (h := h) K C  ) wL_dueEntry kL_291 sL_dueEntry (by decide) rfl rfl (Nat.le_of_ble_eq_true rfl) dL_law_2450 rfl rfl (fun E h9 q9 => by obtain ⟨_, e9, _⟩ := q9; cases e9) (fun v1 h1 hq => ?_)
  obtain ⟨a1, e1, a3, ka, f1, hn, hz⟩ := j_dueEntry C M s a b k dd H hcc hq
  cases e1
  have K1 := f1.Lk K
  have M1 := f1.mr M
  refine q_istore (L' := [some (.ref 0), some (.ref 1), some (.ref 1061), some (.ref 1074), some (.ref 1075), some (.int (nI (4 * i))), some (.int (nI a1)), none, none, none]) dL_law_2453 rfl (by decide) rfl ?_
  refine q_aload_n dL_law_2455 rfl ?_
  refine q_vR (kc := kc + 3) (ks := ks + 18) (g_X10_dueEntry (h := h1) K1 M1 v  ) wX10_dueEntry kL_294 iX10_dueEntry eX10_dueEntry rfl rfl (by decide) (K1.le (by decide)) (by decide) rfl rfl (Nat.le_of_ble_eq_true rfl) dL_law_2456 rfl rfl ?_
  intro v2 h2 hp2
  obtain ⟨b1, rfl, e12, eJ, gm, nx⟩ := q_joint (h := h) q_kd1 ka hn hz hp2
  refine q_istore (L' := [some (.ref 0), some (.ref 1), some (.ref 1061), some (.ref 1074), some (.ref 1075), some (.int (nI (4 * i))), some (.int (nI a1)), some (.int b1), none, none]) dL_law_2459 rfl (by decide) rfl ?_
  exact q_tail (K1.gm gm) a3 e12 eJ nx G (by omega) (by omega) dL_law_2461 dL_law_2462 dL_law_2465 dL_law_2467 dL_law_2472 dL_law_2474 dL_law_2477 dL_law_2478 dL_law_2479 dL_law_2480 dL_law_2482 dL_law_2483 dL_law_2484 dL_law_2489 (by decide)
theorem g_law_42 {Φ : q_Fx} {Z : Program → Env → State → MethodId → Array Value → List Frame → State → Prop} {i kc ks : Nat} {h : q_Hp} {W m : q_W} {O : q_O} {P : q_P} (K : q_Lk Φ h.R h.n) (inv : q_inv i h W O m P) (hi : 4 * i + 4 ≤ Φ.L) (hL : Φ.L ≤ 2048) (G : q_goes Φ Z i (i + 1) kc ks) : q_G Φ false cL_law RL mL_law Z 2492 (q_L0 i) [] h (kc + 4) (ks + 24) := by
  obtain ⟨C, M, s, H⟩ := inv
  obtain ⟨⟨N, hN, a, ⟨τ, b⟩, k⟩, dd⟩ := id s
  have hcc : i ≤ 600 := by omega
  have v := k.2.2.2.2.2.2.2
  refine q_aload_n dL_law_2492 rfl ?_
  refine q_vR (kc := kc + 4) (ks := ks + 24) (g_X9_missedDays (h := h) K C) wX9_missedDays kL_295 iX9_missedDays eX9_missedDays rfl rfl (by decide) (K.le (by decide)) (by decide) rfl rfl (Nat.le_of_ble_eq_true rfl) dL_law_2493 rfl rfl ?_
  intro v1 h1 hp
  obtain ⟨x1, rfl, ex, f1, hh⟩ := j_missedDays C M s a b k dd H hcc hp
  have K1 := f1.Lk K
  have M1 := f1.mr M
  refine q_aload_n dL_law_2496 rfl ?_
  refine q_vR (kc := kc + 4) (ks := ks + 24) (g_X10_missedDays (h := h1) K1 M1 v) wX10_missedDays kL_298 iX10_missedDays eX10_missedDays rfl rfl (by decide) (K1.le (by decide)) (by decide) rfl rfl (Nat.le_of_ble_eq_true rfl) dL_law_2497 rfl rfl ?_
  intro v2 h2 hp2
  obtain ⟨rfl, gm, nx⟩ := q_joint0 (h := h) hh hp2
  exact q_icmp_eq (tgt := 2788) dL_law_2500 rfl (fun _ => q_to (G h2 _ _ nx (K1.gm gm) (by omega) (by omega)) ⟨rfl, rfl, rfl, rfl, rfl, rfl, trivial⟩ rfl) (fun e => absurd ex e)
theorem g_law_43 {Φ : q_Fx} {Z : Program → Env → State → MethodId → Array Value → List Frame → State → Prop} {i kc ks : Nat} {h : q_Hp} {W m : q_W} {O : q_O} {P : q_P} (K : q_Lk Φ h.R h.n) (inv : q_inv i h W O m P) (hi : 4 * i + 4 ≤ Φ.L) (hL : Φ.L ≤ 2048) (G : q_goes Φ Z i (i + 1) kc ks) : q_G Φ false cL_law RL mL_law Z 2505 (q_L0 i) [] h (kc + 4) (ks + 24) := by
  obtain ⟨C, M, s, H⟩ := inv
  obtain ⟨⟨N, hN, a, ⟨τ, b⟩, k⟩, dd⟩ := id s
  have hcc : i ≤ 600 := by omega
  have v := k.2.2.2.2.2.2.2
  refine q_aload_n dL_law_2505 rfl ?_
  refine q_vR (kc := kc + 4) (ks := ks + 24) (g_X9_droppedEntries (h := h) K C) wX9_droppedEntries kL_299 iX9_droppedEntries eX9_droppedEntries rfl rfl (by decide) (K.le (by decide)) (by decide) rfl rfl (Nat.le_of_ble_eq_true rfl) dL_law_2506 rfl rfl ?_
  intro v1 h1 hp
  obtain ⟨x1, rfl, ex, f1, hh⟩ := j_droppedEntries C M s a b k dd H hcc hp
  have K1 := f1.Lk K
  have M1 := f1.mr M
  refine q_aload_n dL_law_2509 rfl ?_
  refine q_vR (kc := kc + 4) (ks := ks + 24) (g_X10_droppedEntries (h := h1) K1 M1 v) wX10_droppedEntries kL_302 iX10_droppedEntries eX10_droppedEntries rfl rfl (by decide) (K1.le (by decide)) (by decide) rfl rfl (Nat.le_of_ble_eq_true rfl) dL_law_2510 rfl rfl ?_
  intro v2 h2 hp2
  obtain ⟨rfl, gm, nx⟩ := q_joint0 (h := h) hh hp2
  exact q_icmp_eq (tgt := 2788) dL_law_2513 rfl (fun _ => q_to (G h2 _ _ nx (K1.gm gm) (by omega) (by omega)) ⟨rfl, rfl, rfl, rfl, rfl, rfl, trivial⟩ rfl) (fun e => absurd ex e)
theorem g_law_44 {Φ : q_Fx} {Z : Program → Env → State → MethodId → Array Value → List Frame → State → Prop} {i kc ks : Nat} {h : q_Hp} {W m : q_W} {O : q_O} {P : q_P} (K : q_Lk Φ h.R h.n) (inv : q_inv i h W O m P) (hi : 4 * i + 4 ≤ Φ.L) (hL : Φ.L ≤ 2048) (G : q_goes Φ Z i (i + 1) kc ks) : q_G Φ false cL_law RL mL_law Z 2518 (q_L0 i) [] h (kc + 4) (ks + 24) := by
  obtain ⟨C, M, s, H⟩ := inv
  obtain ⟨⟨N, hN, a, ⟨τ, b⟩, k⟩, dd⟩ := id s
  have hcc : i ≤ 600 := by omega
  have v := k.2.2.2.2.2.2.2
  refine q_aload_n dL_law_2518 rfl ?_
  refine q_aload_n dL_law_2519 rfl ?_
  refine q_callH (kc := kc + 3) (ks := ks + 18) (g_L_planEnd (h := h) K C  ) wL_planEnd kL_303 sL_planEnd (by decide) rfl rfl (Nat.le_of_ble_eq_true rfl) dL_law_2520 rfl rfl (fun E h9 q9 => by obtain ⟨_, e9, _⟩ := q9; cases e9) (fun v1 h1 hq => ?_)
  obtain ⟨a1, e1, a3, ka, f1, hn, hz⟩ := j_planEnd C M s a b k dd H hcc hq
  cases e1
  have K1 := f1.Lk K
  have M1 := f1.mr M
  refine q_istore (L' := [some (.ref 0), some (.ref 1), some (.ref 1061), some (.ref 1074), some (.ref 1075), some (.int (nI (4 * i))), some (.int (nI a1)), none, none, none]) dL_law_2523 rfl (by decide) rfl ?_
  refine q_aload_n dL_law_2525 rfl ?_
  refine q_vR (kc := kc + 3) (ks := ks + 18) (g_X10_planEnd (h := h1) K1 M1 v  ) wX10_planEnd kL_305 iX10_planEnd eX10_planEnd rfl rfl (by decide) (K1.le (by decide)) (by decide) rfl rfl (Nat.le_of_ble_eq_true rfl) dL_law_2526 rfl rfl ?_
  intro v2 h2 hp2
  obtain ⟨b1, rfl, e12, eJ, gm, nx⟩ := q_joint (h := h) q_kd1 ka hn hz hp2
  refine q_istore (L' := [some (.ref 0), some (.ref 1), some (.ref 1061), some (.ref 1074), some (.ref 1075), some (.int (nI (4 * i))), some (.int (nI a1)), some (.int b1), none, none]) dL_law_2529 rfl (by decide) rfl ?_
  exact q_tail (K1.gm gm) a3 e12 eJ nx G (by omega) (by omega) dL_law_2531 dL_law_2532 dL_law_2535 dL_law_2537 dL_law_2542 dL_law_2544 dL_law_2547 dL_law_2548 dL_law_2549 dL_law_2550 dL_law_2552 dL_law_2553 dL_law_2554 dL_law_2559 (by decide)
theorem g_law_45 {Φ : q_Fx} {Z : Program → Env → State → MethodId → Array Value → List Frame → State → Prop} {i kc ks : Nat} {h : q_Hp} {W m : q_W} {O : q_O} {P : q_P} (K : q_Lk Φ h.R h.n) (inv : q_inv i h W O m P) (hi : 4 * i + 4 ≤ Φ.L) (hL : Φ.L ≤ 2048) (G : q_goes Φ Z i (i + 1) kc ks) : q_G Φ false cL_law RL mL_law Z 2562 (q_L0 i) [] h (kc + 4) (ks + 24) := by
  obtain ⟨C, M, s, H⟩ := inv
  obtain ⟨⟨N, hN, a, ⟨τ, b⟩, k⟩, dd⟩ := id s
  have hcc : i ≤ 600 := by omega
  have v := k.2.2.2.2.2.2.2
  refine q_aload_n dL_law_2562 rfl ?_
  refine q_vR (kc := kc + 4) (ks := ks + 24) (g_X9_isPlanOver (h := h) K C) wX9_isPlanOver kL_306 iX9_isPlanOver eX9_isPlanOver rfl rfl (by decide) (K.le (by decide)) (by decide) rfl rfl (Nat.le_of_ble_eq_true rfl) dL_law_2563 rfl rfl ?_
  intro v1 h1 hp
  obtain ⟨x1, rfl, ex, f1, hh⟩ := j_isPlanOver C M s a b k dd H hcc hp
  have K1 := f1.Lk K
  have M1 := f1.mr M
  refine q_aload_n dL_law_2566 rfl ?_
  refine q_vR (kc := kc + 4) (ks := ks + 24) (g_X10_isPlanOver (h := h1) K1 M1 v) wX10_isPlanOver kL_310 iX10_isPlanOver eX10_isPlanOver rfl rfl (by decide) (K1.le (by decide)) (by decide) rfl rfl (Nat.le_of_ble_eq_true rfl) dL_law_2567 rfl rfl ?_
  intro v2 h2 hp2
  obtain ⟨rfl, gm, nx⟩ := q_joint0 (h := h) hh hp2
  exact q_icmp_eq (tgt := 2788) dL_law_2570 rfl (fun _ => q_to (G h2 _ _ nx (K1.gm gm) (by omega) (by omega)) ⟨rfl, rfl, rfl, rfl, rfl, rfl, trivial⟩ rfl) (fun e => absurd ex e)
theorem g_law_46 {Φ : q_Fx} {Z : Program → Env → State → MethodId → Array Value → List Frame → State → Prop} {i kc ks : Nat} {h : q_Hp} {W m : q_W} {O : q_O} {P : q_P} (K : q_Lk Φ h.R h.n) (inv : q_inv i h W O m P) (hi : 4 * i + 4 ≤ Φ.L) (hL : Φ.L ≤ 2048) (G : q_goes Φ Z i (i + 1) kc ks) : q_G Φ false cL_law RL mL_law Z 2575 (q_L0 i) [] h (kc + 4) (ks + 24) := by
  obtain ⟨C, M, s, H⟩ := inv
  obtain ⟨⟨N, hN, a, ⟨τ, b⟩, k⟩, dd⟩ := id s
  have hcc : i ≤ 600 := by omega
  have v := k.2.2.2.2.2.2.2
  refine q_aload_n dL_law_2575 rfl ?_
  refine q_aload_n dL_law_2576 rfl ?_
  refine q_iload dL_law_2577 rfl ?_
  refine q_iconst (v := nI 1) dL_law_2579 (by decide) ?_
  refine q_iaddN dL_law_2580 ?_
  refine q_sldN (by omega) hL dL_law_2581 ?_
  refine q_aload_n dL_law_2582 rfl ?_
  refine q_callH (kc := kc + 3) (ks := ks + 18) (g_L_writeWeek (h := h) K C  (d := Φ.xs (4 * i + 1))) wL_writeWeek kL_311 sL_writeWeek (by decide) rfl rfl (Nat.le_of_ble_eq_true rfl) dL_law_2583 rfl rfl (fun E h9 q9 => by obtain ⟨_, e9, _⟩ := q9; cases e9) (fun v1 h1 hq => ?_)
  obtain ⟨a1, e1, a3, ka, f1, hn, hz⟩ := j_writeWeek C M s a b k dd H hcc hq
  cases e1
  have K1 := f1.Lk K
  have M1 := f1.mr M
  refine q_istore (L' := [some (.ref 0), some (.ref 1), some (.ref 1061), some (.ref 1074), some (.ref 1075), some (.int (nI (4 * i))), some (.int (nI a1)), none, none, none]) dL_law_2586 rfl (by decide) rfl ?_
  refine q_aload_n dL_law_2588 rfl ?_
  refine q_aload_n dL_law_2589 rfl ?_
  refine q_iload dL_law_2590 rfl ?_
  refine q_iconst (v := nI 1) dL_law_2592 (by decide) ?_
  refine q_iaddN dL_law_2593 ?_
  refine q_sldN (by omega) hL dL_law_2594 ?_
  refine q_vR (kc := kc + 3) (ks := ks + 18) (g_X10_writeWeek (h := h1) K1 M1 v  (d := Φ.xs (4 * i + 1))) wX10_writeWeek kL_313 iX10_writeWeek eX10_writeWeek rfl rfl (by decide) (K1.le (by decide)) (by decide) rfl rfl (Nat.le_of_ble_eq_true rfl) dL_law_2595 rfl rfl ?_
  intro v2 h2 hp2
  obtain ⟨l', hl', hp2⟩ := j_wwr hp2
  have hz := hz l' hl'
  obtain ⟨b1, rfl, e12, eJ, gm, nx⟩ := q_joint (h := h) q_kd1 ka hn hz hp2
  refine q_istore (L' := [some (.ref 0), some (.ref 1), some (.ref 1061), some (.ref 1074), some (.ref 1075), some (.int (nI (4 * i))), some (.int (nI a1)), some (.int b1), none, none]) dL_law_2598 rfl (by decide) rfl ?_
  exact q_tail (K1.gm gm) a3 e12 eJ nx G (by omega) (by omega) dL_law_2600 dL_law_2601 dL_law_2604 dL_law_2606 dL_law_2611 dL_law_2613 dL_law_2616 dL_law_2617 dL_law_2618 dL_law_2619 dL_law_2621 dL_law_2622 dL_law_2623 dL_law_2628 (by decide)
theorem g_law_47 {Φ : q_Fx} {Z : Program → Env → State → MethodId → Array Value → List Frame → State → Prop} {i kc ks : Nat} {h : q_Hp} {W m : q_W} {O : q_O} {P : q_P} (K : q_Lk Φ h.R h.n) (inv : q_inv i h W O m P) (hi : 4 * i + 4 ≤ Φ.L) (hL : Φ.L ≤ 2048) (G : q_goes Φ Z i (i + 1) kc ks) : q_G Φ false cL_law RL mL_law Z 2631 (q_L0 i) [] h (kc + 4) (ks + 24) := by
  obtain ⟨C, M, s, H⟩ := inv
  obtain ⟨⟨N, hN, a, ⟨τ, b⟩, k⟩, dd⟩ := id s
  have hcc : i ≤ 600 := by omega
  have v := k.2.2.2.2.2.2.2
  refine q_aload_n dL_law_2631 rfl ?_
  refine q_aload_n dL_law_2632 rfl ?_
  refine q_iload dL_law_2633 rfl ?_
  refine q_iconst (v := nI 1) dL_law_2635 (by decide) ?_
  refine q_iaddN dL_law_2636 ?_
  refine q_sldN (by omega) hL dL_law_2637 ?_
  refine q_aload_n dL_law_2638 rfl ?_
  refine q_callH (kc := kc + 3) (ks := ks + 18) (g_L_lineAt (h := h) K C (fun j hj => by rw [H.2.2.2.2.2.1] at hj; obtain ⟨e1, x, x1, x2⟩ := H.2.2.2.2.2.2 j hj; rw [e1, x2]; exact (pk_charN x1).1) (p := Φ.xs (4 * i + 1))) wL_lineAt kL_314 sL_lineAt (by decide) rfl rfl (Nat.le_of_ble_eq_true rfl) dL_law_2639 rfl rfl (fun E h9 q9 => by obtain ⟨_, e9, _⟩ := q9; cases e9) (fun v1 h1 hq => ?_)
  obtain ⟨a1, e1, a3, ka, f1, hn, hz⟩ := j_lineAt C M s a b k dd H hcc hq
  cases e1
  have K1 := f1.Lk K
  have M1 := f1.mr M
  refine q_istore (L' := [some (.ref 0), some (.ref 1), some (.ref 1061), some (.ref 1074), some (.ref 1075), some (.int (nI (4 * i))), some (.int (nI a1)), none, none, none]) dL_law_2642 rfl (by decide) rfl ?_
  refine q_aload_n dL_law_2644 rfl ?_
  refine q_aload_n dL_law_2645 rfl ?_
  refine q_iload dL_law_2646 rfl ?_
  refine q_iconst (v := nI 1) dL_law_2648 (by decide) ?_
  refine q_iaddN dL_law_2649 ?_
  refine q_sldN (by omega) hL dL_law_2650 ?_
  refine q_vR (kc := kc + 3) (ks := ks + 18) (g_X10_lineAt (h := h1) K1 M1 v (fun j hj => by obtain ⟨e1, x, x1, x2⟩ := H.2.2.2.2.2.2 j hj; rw [x2]; exact (pk_charN x1).1) (p := Φ.xs (4 * i + 1))) wX10_lineAt kL_316 iX10_lineAt eX10_lineAt rfl rfl (by decide) (K1.le (by decide)) (by decide) rfl rfl (Nat.le_of_ble_eq_true rfl) dL_law_2651 rfl rfl ?_
  intro v2 h2 hp2
  obtain ⟨b1, rfl, e12, eJ, gm, nx⟩ := q_joint (h := h) q_kd1 ka hn hz hp2
  refine q_istore (L' := [some (.ref 0), some (.ref 1), some (.ref 1061), some (.ref 1074), some (.ref 1075), some (.int (nI (4 * i))), some (.int (nI a1)), some (.int b1), none, none]) dL_law_2654 rfl (by decide) rfl ?_
  exact q_tail (K1.gm gm) a3 e12 eJ nx G (by omega) (by omega) dL_law_2656 dL_law_2657 dL_law_2660 dL_law_2662 dL_law_2667 dL_law_2669 dL_law_2672 dL_law_2673 dL_law_2674 dL_law_2675 dL_law_2677 dL_law_2678 dL_law_2679 dL_law_2684 (by decide)
theorem g_law_48 {Φ : q_Fx} {Z : Program → Env → State → MethodId → Array Value → List Frame → State → Prop} {i kc ks : Nat} {h : q_Hp} {W m : q_W} {O : q_O} {P : q_P} (K : q_Lk Φ h.R h.n) (inv : q_inv i h W O m P) (hi : 4 * i + 4 ≤ Φ.L) (hL : Φ.L ≤ 2048) (G : q_goes Φ Z i (i + 1) kc ks) : q_G Φ false cL_law RL mL_law Z 2687 (q_L0 i) [] h (kc + 4) (ks + 24) := by
  obtain ⟨C, M, s, H⟩ := inv
  obtain ⟨⟨N, hN, a, ⟨τ, b⟩, k⟩, dd⟩ := id s
  have hcc : i ≤ 600 := by omega
  have v := k.2.2.2.2.2.2.2
  refine q_aload_n dL_law_2687 rfl ?_
  refine q_aload_n dL_law_2688 rfl ?_
  refine q_callH (kc := kc + 3) (ks := ks + 18) (g_L_undo (h := h) K C  ) wL_undo kL_317 sL_undo (by decide) rfl rfl (Nat.le_of_ble_eq_true rfl) dL_law_2689 rfl rfl (fun E h9 q9 => by obtain ⟨_, e9, _⟩ := q9; cases e9) (fun v1 h1 hq => ?_)
  obtain ⟨a1, e1, a3, ka, f1, hn, hz⟩ := j_undo C M s a b k dd H hcc hq
  cases e1
  have K1 := f1.Lk K
  have M1 := f1.mr M
  refine q_istore (L' := [some (.ref 0), some (.ref 1), some (.ref 1061), some (.ref 1074), some (.ref 1075), some (.int (nI (4 * i))), some (.int (nI a1)), none, none, none]) dL_law_2692 rfl (by decide) rfl ?_
  refine q_aload_n dL_law_2694 rfl ?_
  refine q_vR (kc := kc + 3) (ks := ks + 18) (g_X10_undo (h := h1) K1 M1 v  ) wX10_undo kL_319 iX10_undo eX10_undo rfl rfl (by decide) (K1.le (by decide)) (by decide) rfl rfl (Nat.le_of_ble_eq_true rfl) dL_law_2695 rfl rfl ?_
  intro v2 h2 hp2
  obtain ⟨b1, rfl, e12, eJ, gm, nx⟩ := q_joint (h := h) q_kd1 ka hn hz hp2
  refine q_istore (L' := [some (.ref 0), some (.ref 1), some (.ref 1061), some (.ref 1074), some (.ref 1075), some (.int (nI (4 * i))), some (.int (nI a1)), some (.int b1), none, none]) dL_law_2698 rfl (by decide) rfl ?_
  exact q_tail (K1.gm gm) a3 e12 eJ nx G (by omega) (by omega) dL_law_2700 dL_law_2701 dL_law_2704 dL_law_2706 dL_law_2711 dL_law_2713 dL_law_2716 dL_law_2717 dL_law_2718 dL_law_2719 dL_law_2721 dL_law_2722 dL_law_2723 dL_law_2728 (by decide)
theorem g_law_49 {Φ : q_Fx} {Z : Program → Env → State → MethodId → Array Value → List Frame → State → Prop} {i kc ks : Nat} {h : q_Hp} {W m : q_W} {O : q_O} {P : q_P} (K : q_Lk Φ h.R h.n) (inv : q_inv i h W O m P) (hi : 4 * i + 4 ≤ Φ.L) (hL : Φ.L ≤ 2048) (G : q_goes Φ Z i (i + 1) kc ks) : q_G Φ false cL_law RL mL_law Z 2731 (q_L0 i) [] h (kc + 4) (ks + 24) := by
  obtain ⟨C, M, s, H⟩ := inv
  obtain ⟨⟨N, hN, a, ⟨τ, b⟩, k⟩, dd⟩ := id s
  have hcc : i ≤ 600 := by omega
  have v := k.2.2.2.2.2.2.2
  refine q_aload_n dL_law_2731 rfl ?_
  refine q_vR (kc := kc + 4) (ks := ks + 24) (g_X9_save (h := h) K C) wX9_save kL_320 iX9_save eX9_save rfl rfl (by decide) (K.le (by decide)) (by decide) rfl rfl (Nat.le_of_ble_eq_true rfl) dL_law_2732 rfl rfl ?_
  intro v1 h1 hp
  obtain ⟨x1, rfl, ex, f1, hh⟩ := j_save C M s a b k dd H hcc hp
  have K1 := f1.Lk K
  have M1 := f1.mr M
  refine q_aload_n dL_law_2735 rfl ?_
  refine q_vR (kc := kc + 4) (ks := ks + 24) (g_X10_save (h := h1) K1 M1 v) wX10_save kL_323 iX10_save eX10_save rfl rfl (by decide) (K1.le (by decide)) (by decide) rfl rfl (Nat.le_of_ble_eq_true rfl) dL_law_2736 rfl rfl ?_
  intro v2 h2 hp2
  obtain ⟨rfl, gm, nx⟩ := q_joint0 (h := h) hh hp2
  exact q_icmp_eq (tgt := 2788) dL_law_2739 rfl (fun _ => q_to (G h2 _ _ nx (K1.gm gm) (by omega) (by omega)) ⟨rfl, rfl, rfl, rfl, rfl, rfl, trivial⟩ rfl) (fun e => absurd ex e)
theorem g_law_50 {Φ : q_Fx} {Z : Program → Env → State → MethodId → Array Value → List Frame → State → Prop} {i kc ks : Nat} {h : q_Hp} {W m : q_W} {O : q_O} {P : q_P} (K : q_Lk Φ h.R h.n) (inv : q_inv i h W O m P) (hi : 4 * i + 4 ≤ Φ.L) (hL : Φ.L ≤ 2048) (G : q_goes Φ Z i (i + 1) kc ks) : q_G Φ false cL_law RL mL_law Z 2744 (q_L0 i) [] h (kc + 4) (ks + 24) := by
  obtain ⟨C, M, s, H⟩ := inv
  obtain ⟨⟨N, hN, a, ⟨τ, b⟩, k⟩, dd⟩ := id s
  have hcc : i ≤ 600 := by omega
  have v := k.2.2.2.2.2.2.2
  refine q_aload_n dL_law_2744 rfl ?_
  refine q_aload_n dL_law_2745 rfl ?_
  refine q_callH (kc := kc + 3) (ks := ks + 18) (g_L_restore (h := h) K C  ) wL_restore kL_324 sL_restore (by decide) rfl rfl (Nat.le_of_ble_eq_true rfl) dL_law_2746 rfl rfl (fun E h9 q9 => by obtain ⟨_, e9, _⟩ := q9; cases e9) (fun v1 h1 hq => ?_)
  obtain ⟨a1, e1, a3, ka, f1, hn, hz⟩ := j_restore C M s a b k dd H hcc hq
  cases e1
  have K1 := f1.Lk K
  have M1 := f1.mr M
  refine q_istore (L' := [some (.ref 0), some (.ref 1), some (.ref 1061), some (.ref 1074), some (.ref 1075), some (.int (nI (4 * i))), some (.int (nI a1)), none, none, none]) dL_law_2749 rfl (by decide) rfl ?_
  refine q_aload_n dL_law_2751 rfl ?_
  refine q_vR (kc := kc + 3) (ks := ks + 18) (g_X10_restore (h := h1) K1 M1 v  ) wX10_restore kL_326 iX10_restore eX10_restore rfl rfl (by decide) (K1.le (by decide)) (by decide) rfl rfl (Nat.le_of_ble_eq_true rfl) dL_law_2752 rfl rfl ?_
  intro v2 h2 hp2
  obtain ⟨b1, rfl, e12, eJ, gm, nx⟩ := q_joint (h := h) q_kd1 ka hn hz hp2
  refine q_istore (L' := [some (.ref 0), some (.ref 1), some (.ref 1061), some (.ref 1074), some (.ref 1075), some (.int (nI (4 * i))), some (.int (nI a1)), some (.int b1), none, none]) dL_law_2755 rfl (by decide) rfl ?_
  exact q_tail (K1.gm gm) a3 e12 eJ nx G (by omega) (by omega) dL_law_2757 dL_law_2758 dL_law_2761 dL_law_2763 dL_law_2768 dL_law_2770 dL_law_2773 dL_law_2774 dL_law_2775 dL_law_2776 dL_law_2778 dL_law_2779 dL_law_2780 dL_law_2785 (by decide)
