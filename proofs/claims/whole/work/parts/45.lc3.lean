theorem lc_fact (l : Launch) (hst : l.stackTraces = false) {D : va_G} {cT ac am : Nat → Nat} {aD b N sz : Nat} {xs : Nat → Int32} {σ μ : Sg} {o : Nat → Int64} {u : Nat → UInt64} {k n : Nat} {x5 : Int32} (hC : CP σ μ) (hv : ∀ c : Int32, c = 1 ∨ c = 2 ∨ c = 3 ∨ c = 4 → vp_in (x5 + c) N) (hk : k + 5 ≤ 646177 ∧ n + 30 ≤ 7157572) (kk : ∀ (σ1 μ1 : Sg) (o1 : Nat → Int64) (u1 : Nat → UInt64), CP σ1 μ1 → Wl l D cT ac am aD b N sz xs 2208 x5 σ1 μ1 o1 u1 (k + 5) (n + 30)) : Wl l D cT ac am aD b N sz xs 1673 x5 σ μ o u k n := by
  obtain ⟨n9, m9, p9, d9, L9, sn9, hC⟩ := hC
  refine wm_aload_n 1674 rfl dL_law_1673 rfl rfl ?_
  refine wm_aload_n 1675 rfl dL_law_1674 rfl rfl ?_
  refine wm_iload 1677 rfl dL_law_1675 rfl ?_
  refine wm_iconst (v := 1) 1678 rfl dL_law_1677 (by decide) ?_
  refine wm_iadd 1679 rfl dL_law_1678 ?_
  refine wl_sld 1680 rfl dL_law_1679 (hv 1 (Or.inl rfl)) ?_
  refine wm_aload_n 1681 rfl dL_law_1680 rfl rfl ?_
  refine wm_iload 1683 rfl dL_law_1681 rfl ?_
  refine wm_iconst (v := 2) 1684 rfl dL_law_1683 (by decide) ?_
  refine wm_iadd 1685 rfl dL_law_1684 ?_
  refine wl_sld 1686 rfl dL_law_1685 (hv 2 (Or.inr (Or.inl rfl))) ?_
  refine wm_aload_n 1687 rfl dL_law_1686 rfl rfl ?_
  refine wl_callW (ad := ac) 1690 rfl dL_law_1687 (w_fact l _ _ (k_X4_fact l hst hC.cI hC.cS _ _) (show ∀ E ∈ [eIO, eIO, eNS], E ∈ [eIO, eNS] by decide) o) aw_27_13 aw_3_23 ⟨by decide +kernel, by decide +kernel, (show (parseMethodDescriptor yL_fact.desc).map (fun d => d.parameters.length) = some 4 by decide +kernel)⟩ aw_27_12 aw_27_11 ⟨Nat.le_of_ble_eq_true rfl, Nat.le_of_ble_eq_true rfl⟩ (Nat.le_of_ble_eq_true rfl) ⟨Nat.le_trans (Nat.add_le_add_left (show 3 ≤ 5 by decide) k) hk.1, Nat.le_trans (Nat.add_le_add_left (show 18 ≤ 30 by decide) n) hk.2⟩ (zImp.perm (List.Perm.refl _)) (fun σ1 o1 => lX cT ac am aD σ1 μ o1 u) (fun _ _ => zImp.perm (List.Perm.refl _)) rfl (fun k6 σ1 o1 hw => ?_)
  refine wm_istore (ls' := [(6, _), (0, _), (1, _), (2, _), (3, _), (4, _), (5, _)]) 1692 rfl dL_law_1690 (by decide) rfl ?_
  refine wm_aload_n 1693 rfl dL_law_1692 rfl rfl ?_
  refine wm_aload_n 1694 rfl dL_law_1693 rfl rfl ?_
  refine wm_iload 1696 rfl dL_law_1694 rfl ?_
  refine wm_iconst (v := 1) 1697 rfl dL_law_1696 (by decide) ?_
  refine wm_iadd 1698 rfl dL_law_1697 ?_
  refine wl_sld 1699 rfl dL_law_1698 (hv 1 (Or.inl rfl)) ?_
  refine wm_aload_n 1700 rfl dL_law_1699 rfl rfl ?_
  refine wm_iload 1702 rfl dL_law_1700 rfl ?_
  refine wm_iconst (v := 2) 1703 rfl dL_law_1702 (by decide) ?_
  refine wm_iadd 1704 rfl dL_law_1703 ?_
  refine wl_sld 1705 rfl dL_law_1704 (hv 2 (Or.inr (Or.inl rfl))) ?_
  refine wl_callVi (ad := am) 1708 rfl dL_law_1705 (k_X5_fact l hC.mI hC.mP hC.mQ hC.sM _ _) ca_X5_fact cv_X5_fact rfl aw_28_10 rfl rfl ⟨Nat.le_of_ble_eq_true rfl, Nat.le_of_ble_eq_true rfl⟩ (Nat.le_of_ble_eq_true rfl) ⟨Nat.le_trans (Nat.add_le_add_left (show 3 ≤ 5 by decide) k) hk.1, Nat.le_trans (Nat.add_le_add_left (show 18 ≤ 30 by decide) n) hk.2⟩ lX_M (fun μ1 => lX cT ac am aD σ1 μ1 o1 u) (fun _ => lX_M.symm) rfl (fun w μ1 hm => ?_)
  refine wm_istore (ls' := [(7, _), (6, _), (0, _), (1, _), (2, _), (3, _), (4, _), (5, _)]) 1710 rfl dL_law_1708 (by decide) rfl ?_
  refine wm_aload_n 1711 rfl dL_law_1710 rfl rfl ?_
  refine wl_callVi (ad := am) 1714 rfl dL_law_1711 (k_X5_thrown l) ca_X5_thrown cv_X5_thrown rfl aw_5_5 rfl rfl ⟨Nat.le_of_ble_eq_true rfl, Nat.le_of_ble_eq_true rfl⟩ (Nat.le_of_ble_eq_true rfl) ⟨Nat.le_trans (Nat.add_le_add_left (show 3 ≤ 5 by decide) k) hk.1, Nat.le_trans (Nat.add_le_add_left (show 18 ≤ 30 by decide) n) hk.2⟩ lX_M (fun μ2 => lX cT ac am aD σ1 μ2 o1 u) (fun _ => lX_M.symm) rfl (fun r9 μ2 h9 => ?_)
  obtain ⟨rfl, rfl⟩ := h9
  obtain ⟨v9, hc9, hf9⟩ := hw
  have ha := q_fact hC hc9 hm
  refine wm_iload 1716 rfl dL_law_1714 rfl ?_
  refine wm_icmp_eq 1721 1719 rfl (by decide) dL_law_1716 (fun _ => ?_) (fun c9 => absurd ha.1 c9)
  refine wm_iload 1723 rfl dL_law_1721 rfl ?_
  refine wm_if_ne 1738 1726 rfl (by decide) dL_law_1723 (fun _ => ?_) (fun c6 => ?_)
  · refine wm_goto 2208 (by decide) dL_law_1738 ?_
    refine wm_loc (ls2 := [(0, .ref b), (1, .ref (ac 0)), (2, .ref (am 0)), (3, .ref (ac 27)), (4, .ref aD), (5, .int x5)]) [2, 3, 4, 5, 6, 7] rfl ?_
    refine wl_widen (k1 := k + 5) (n1 := n + 30) (by omega) (by omega) ?_
    exact kk _ _ _ _ ha.2.2
  · obtain hv9 := ha.2.1 c6
    have hf9 := hf9 c6
    subst hv9
    refine wm_aload_n 1727 rfl dL_law_1726 rfl rfl ?_
    refine wm_iconst (v := 0) 1728 rfl dL_law_1727 (by decide) ?_
    refine wl_lald 1729 rfl dL_law_1728 vin01 ?_
    refine wm_iload 1731 rfl dL_law_1729 rfl ?_
    refine wm_i2l 1732 rfl dL_law_1731 ?_
    refine wm_lcmp 1733 rfl dL_law_1732 ?_
    refine wm_if_eq 1738 1736 rfl (by decide) dL_law_1733 (fun _ => ?_) (fun c8 => absurd ((lg_cmp_eq _ _).mpr hf9) c8)
    refine wm_goto 2208 (by decide) dL_law_1738 ?_
    refine wm_loc (ls2 := [(0, .ref b), (1, .ref (ac 0)), (2, .ref (am 0)), (3, .ref (ac 27)), (4, .ref aD), (5, .int x5)]) [2, 3, 4, 5, 6, 7] rfl ?_
    refine wl_widen (k1 := k + 5) (n1 := n + 30) (by omega) (by omega) ?_
    exact kk _ _ _ _ ha.2.2
theorem lc_factByPairs (l : Launch) (hst : l.stackTraces = false) {D : va_G} {cT ac am : Nat → Nat} {aD b N sz : Nat} {xs : Nat → Int32} {σ μ : Sg} {o : Nat → Int64} {u : Nat → UInt64} {k n : Nat} {x5 : Int32} (hC : CP σ μ) (hv : ∀ c : Int32, c = 1 ∨ c = 2 ∨ c = 3 ∨ c = 4 → vp_in (x5 + c) N) (hk : k + 5 ≤ 646177 ∧ n + 30 ≤ 7157572) (kk : ∀ (σ1 μ1 : Sg) (o1 : Nat → Int64) (u1 : Nat → UInt64), CP σ1 μ1 → Wl l D cT ac am aD b N sz xs 2208 x5 σ1 μ1 o1 u1 (k + 5) (n + 30)) : Wl l D cT ac am aD b N sz xs 1741 x5 σ μ o u k n := by
  obtain ⟨n9, m9, p9, d9, L9, sn9, hC⟩ := hC
  refine wm_aload_n 1742 rfl dL_law_1741 rfl rfl ?_
  refine wm_aload_n 1743 rfl dL_law_1742 rfl rfl ?_
  refine wm_iload 1745 rfl dL_law_1743 rfl ?_
  refine wm_iconst (v := 1) 1746 rfl dL_law_1745 (by decide) ?_
  refine wm_iadd 1747 rfl dL_law_1746 ?_
  refine wl_sld 1748 rfl dL_law_1747 (hv 1 (Or.inl rfl)) ?_
  refine wm_aload_n 1749 rfl dL_law_1748 rfl rfl ?_
  refine wm_iload 1751 rfl dL_law_1749 rfl ?_
  refine wm_iconst (v := 2) 1752 rfl dL_law_1751 (by decide) ?_
  refine wm_iadd 1753 rfl dL_law_1752 ?_
  refine wl_sld 1754 rfl dL_law_1753 (hv 2 (Or.inr (Or.inl rfl))) ?_
  refine wm_aload_n 1755 rfl dL_law_1754 rfl rfl ?_
  refine wl_callW (ad := ac) 1758 rfl dL_law_1755 (w_factByPairs l _ _ (k_X4_factByPairs l hst hC.cI hC.cS _ _) (show ∀ E ∈ [eIO, eIO, eNS], E ∈ [eIO, eNS] by decide) o) aw_29_0 aw_3_23 ⟨by decide +kernel, by decide +kernel, (show (parseMethodDescriptor yL_factByPairs.desc).map (fun d => d.parameters.length) = some 4 by decide +kernel)⟩ aw_28_23 aw_28_22 ⟨Nat.le_of_ble_eq_true rfl, Nat.le_of_ble_eq_true rfl⟩ (Nat.le_of_ble_eq_true rfl) ⟨Nat.le_trans (Nat.add_le_add_left (show 3 ≤ 5 by decide) k) hk.1, Nat.le_trans (Nat.add_le_add_left (show 18 ≤ 30 by decide) n) hk.2⟩ (zImp.perm (List.Perm.refl _)) (fun σ1 o1 => lX cT ac am aD σ1 μ o1 u) (fun _ _ => zImp.perm (List.Perm.refl _)) rfl (fun k6 σ1 o1 hw => ?_)
  refine wm_istore (ls' := [(6, _), (0, _), (1, _), (2, _), (3, _), (4, _), (5, _)]) 1760 rfl dL_law_1758 (by decide) rfl ?_
  refine wm_aload_n 1761 rfl dL_law_1760 rfl rfl ?_
  refine wm_aload_n 1762 rfl dL_law_1761 rfl rfl ?_
  refine wm_iload 1764 rfl dL_law_1762 rfl ?_
  refine wm_iconst (v := 1) 1765 rfl dL_law_1764 (by decide) ?_
  refine wm_iadd 1766 rfl dL_law_1765 ?_
  refine wl_sld 1767 rfl dL_law_1766 (hv 1 (Or.inl rfl)) ?_
  refine wm_aload_n 1768 rfl dL_law_1767 rfl rfl ?_
  refine wm_iload 1770 rfl dL_law_1768 rfl ?_
  refine wm_iconst (v := 2) 1771 rfl dL_law_1770 (by decide) ?_
  refine wm_iadd 1772 rfl dL_law_1771 ?_
  refine wl_sld 1773 rfl dL_law_1772 (hv 2 (Or.inr (Or.inl rfl))) ?_
  refine wl_callVi (ad := am) 1776 rfl dL_law_1773 (k_X5_factByPairs l hC.mI hC.mP hC.mQ hC.sM _ _) ca_X5_factByPairs cv_X5_factByPairs rfl aw_29_17 rfl rfl ⟨Nat.le_of_ble_eq_true rfl, Nat.le_of_ble_eq_true rfl⟩ (Nat.le_of_ble_eq_true rfl) ⟨Nat.le_trans (Nat.add_le_add_left (show 3 ≤ 5 by decide) k) hk.1, Nat.le_trans (Nat.add_le_add_left (show 18 ≤ 30 by decide) n) hk.2⟩ lX_M (fun μ1 => lX cT ac am aD σ1 μ1 o1 u) (fun _ => lX_M.symm) rfl (fun w μ1 hm => ?_)
  refine wm_istore (ls' := [(7, _), (6, _), (0, _), (1, _), (2, _), (3, _), (4, _), (5, _)]) 1778 rfl dL_law_1776 (by decide) rfl ?_
  refine wm_aload_n 1779 rfl dL_law_1778 rfl rfl ?_
  refine wl_callVi (ad := am) 1782 rfl dL_law_1779 (k_X5_thrown l) ca_X5_thrown cv_X5_thrown rfl aw_5_5 rfl rfl ⟨Nat.le_of_ble_eq_true rfl, Nat.le_of_ble_eq_true rfl⟩ (Nat.le_of_ble_eq_true rfl) ⟨Nat.le_trans (Nat.add_le_add_left (show 3 ≤ 5 by decide) k) hk.1, Nat.le_trans (Nat.add_le_add_left (show 18 ≤ 30 by decide) n) hk.2⟩ lX_M (fun μ2 => lX cT ac am aD σ1 μ2 o1 u) (fun _ => lX_M.symm) rfl (fun r9 μ2 h9 => ?_)
  obtain ⟨rfl, rfl⟩ := h9
  obtain ⟨v9, hc9, hf9⟩ := hw
  have ha := q_factByPairs hC hc9 hm
  refine wm_iload 1784 rfl dL_law_1782 rfl ?_
  refine wm_icmp_eq 1789 1787 rfl (by decide) dL_law_1784 (fun _ => ?_) (fun c9 => absurd ha.1 c9)
  refine wm_iload 1791 rfl dL_law_1789 rfl ?_
  refine wm_if_ne 1806 1794 rfl (by decide) dL_law_1791 (fun _ => ?_) (fun c6 => ?_)
  · refine wm_goto 2208 (by decide) dL_law_1806 ?_
    refine wm_loc (ls2 := [(0, .ref b), (1, .ref (ac 0)), (2, .ref (am 0)), (3, .ref (ac 27)), (4, .ref aD), (5, .int x5)]) [2, 3, 4, 5, 6, 7] rfl ?_
    refine wl_widen (k1 := k + 5) (n1 := n + 30) (by omega) (by omega) ?_
    exact kk _ _ _ _ ha.2.2
  · obtain hv9 := ha.2.1 c6
    have hf9 := hf9 c6
    subst hv9
    refine wm_aload_n 1795 rfl dL_law_1794 rfl rfl ?_
    refine wm_iconst (v := 0) 1796 rfl dL_law_1795 (by decide) ?_
    refine wl_lald 1797 rfl dL_law_1796 vin01 ?_
    refine wm_iload 1799 rfl dL_law_1797 rfl ?_
    refine wm_i2l 1800 rfl dL_law_1799 ?_
    refine wm_lcmp 1801 rfl dL_law_1800 ?_
    refine wm_if_eq 1806 1804 rfl (by decide) dL_law_1801 (fun _ => ?_) (fun c8 => absurd ((lg_cmp_eq _ _).mpr hf9) c8)
    refine wm_goto 2208 (by decide) dL_law_1806 ?_
    refine wm_loc (ls2 := [(0, .ref b), (1, .ref (ac 0)), (2, .ref (am 0)), (3, .ref (ac 27)), (4, .ref aD), (5, .int x5)]) [2, 3, 4, 5, 6, 7] rfl ?_
    refine wl_widen (k1 := k + 5) (n1 := n + 30) (by omega) (by omega) ?_
    exact kk _ _ _ _ ha.2.2
theorem lc_factFrom (l : Launch) (hst : l.stackTraces = false) {D : va_G} {cT ac am : Nat → Nat} {aD b N sz : Nat} {xs : Nat → Int32} {σ μ : Sg} {o : Nat → Int64} {u : Nat → UInt64} {k n : Nat} {x5 : Int32} (hC : CP σ μ) (hv : ∀ c : Int32, c = 1 ∨ c = 2 ∨ c = 3 ∨ c = 4 → vp_in (x5 + c) N) (hk : k + 5 ≤ 646177 ∧ n + 30 ≤ 7157572) (kk : ∀ (σ1 μ1 : Sg) (o1 : Nat → Int64) (u1 : Nat → UInt64), CP σ1 μ1 → Wl l D cT ac am aD b N sz xs 2208 x5 σ1 μ1 o1 u1 (k + 5) (n + 30)) : Wl l D cT ac am aD b N sz xs 1809 x5 σ μ o u k n := by
  obtain ⟨n9, m9, p9, d9, L9, sn9, hC⟩ := hC
  refine wm_aload_n 1810 rfl dL_law_1809 rfl rfl ?_
  refine wm_aload_n 1811 rfl dL_law_1810 rfl rfl ?_
  refine wm_iload 1813 rfl dL_law_1811 rfl ?_
  refine wm_iconst (v := 1) 1814 rfl dL_law_1813 (by decide) ?_
  refine wm_iadd 1815 rfl dL_law_1814 ?_
  refine wl_sld 1816 rfl dL_law_1815 (hv 1 (Or.inl rfl)) ?_
  refine wm_aload_n 1817 rfl dL_law_1816 rfl rfl ?_
  refine wm_iload 1819 rfl dL_law_1817 rfl ?_
  refine wm_iconst (v := 2) 1820 rfl dL_law_1819 (by decide) ?_
  refine wm_iadd 1821 rfl dL_law_1820 ?_
  refine wl_sld 1822 rfl dL_law_1821 (hv 2 (Or.inr (Or.inl rfl))) ?_
  refine wm_aload_n 1823 rfl dL_law_1822 rfl rfl ?_
  refine wl_callW (ad := ac) 1826 rfl dL_law_1823 (w_factFrom l _ _ (k_X4_factFrom l hst hC.cI hC.cS _ _) (show ∀ E ∈ [eIO, eIO, eNS], E ∈ [eIO, eNS] by decide) o) aw_30_0 aw_3_23 ⟨by decide +kernel, by decide +kernel, (show (parseMethodDescriptor yL_factFrom.desc).map (fun d => d.parameters.length) = some 4 by decide +kernel)⟩ aw_29_23 aw_29_22 ⟨Nat.le_of_ble_eq_true rfl, Nat.le_of_ble_eq_true rfl⟩ (Nat.le_of_ble_eq_true rfl) ⟨Nat.le_trans (Nat.add_le_add_left (show 3 ≤ 5 by decide) k) hk.1, Nat.le_trans (Nat.add_le_add_left (show 18 ≤ 30 by decide) n) hk.2⟩ (zImp.perm (List.Perm.refl _)) (fun σ1 o1 => lX cT ac am aD σ1 μ o1 u) (fun _ _ => zImp.perm (List.Perm.refl _)) rfl (fun k6 σ1 o1 hw => ?_)
  refine wm_istore (ls' := [(6, _), (0, _), (1, _), (2, _), (3, _), (4, _), (5, _)]) 1828 rfl dL_law_1826 (by decide) rfl ?_
  refine wm_aload_n 1829 rfl dL_law_1828 rfl rfl ?_
  refine wm_aload_n 1830 rfl dL_law_1829 rfl rfl ?_
  refine wm_iload 1832 rfl dL_law_1830 rfl ?_
  refine wm_iconst (v := 1) 1833 rfl dL_law_1832 (by decide) ?_
  refine wm_iadd 1834 rfl dL_law_1833 ?_
  refine wl_sld 1835 rfl dL_law_1834 (hv 1 (Or.inl rfl)) ?_
  refine wm_aload_n 1836 rfl dL_law_1835 rfl rfl ?_
  refine wm_iload 1838 rfl dL_law_1836 rfl ?_
  refine wm_iconst (v := 2) 1839 rfl dL_law_1838 (by decide) ?_
  refine wm_iadd 1840 rfl dL_law_1839 ?_
  refine wl_sld 1841 rfl dL_law_1840 (hv 2 (Or.inr (Or.inl rfl))) ?_
  refine wl_callVi (ad := am) 1844 rfl dL_law_1841 (k_X5_factFrom l hC.mI hC.mP hC.mQ hC.sM _ _) ca_X5_factFrom cv_X5_factFrom rfl aw_30_5 rfl rfl ⟨Nat.le_of_ble_eq_true rfl, Nat.le_of_ble_eq_true rfl⟩ (Nat.le_of_ble_eq_true rfl) ⟨Nat.le_trans (Nat.add_le_add_left (show 3 ≤ 5 by decide) k) hk.1, Nat.le_trans (Nat.add_le_add_left (show 18 ≤ 30 by decide) n) hk.2⟩ lX_M (fun μ1 => lX cT ac am aD σ1 μ1 o1 u) (fun _ => lX_M.symm) rfl (fun w μ1 hm => ?_)
  refine wm_istore (ls' := [(7, _), (6, _), (0, _), (1, _), (2, _), (3, _), (4, _), (5, _)]) 1846 rfl dL_law_1844 (by decide) rfl ?_
  refine wm_aload_n 1847 rfl dL_law_1846 rfl rfl ?_
  refine wl_callVi (ad := am) 1850 rfl dL_law_1847 (k_X5_thrown l) ca_X5_thrown cv_X5_thrown rfl aw_5_5 rfl rfl ⟨Nat.le_of_ble_eq_true rfl, Nat.le_of_ble_eq_true rfl⟩ (Nat.le_of_ble_eq_true rfl) ⟨Nat.le_trans (Nat.add_le_add_left (show 3 ≤ 5 by decide) k) hk.1, Nat.le_trans (Nat.add_le_add_left (show 18 ≤ 30 by decide) n) hk.2⟩ lX_M (fun μ2 => lX cT ac am aD σ1 μ2 o1 u) (fun _ => lX_M.symm) rfl (fun r9 μ2 h9 => ?_)
  obtain ⟨rfl, rfl⟩ := h9
  obtain ⟨v9, hc9, hf9⟩ := hw
  have ha := q_factFrom hC hc9 hm
  refine wm_iload 1852 rfl dL_law_1850 rfl ?_
  refine wm_icmp_eq 1857 1855 rfl (by decide) dL_law_1852 (fun _ => ?_) (fun c9 => absurd ha.1 c9)
  refine wm_iload 1859 rfl dL_law_1857 rfl ?_
  refine wm_if_ne 1874 1862 rfl (by decide) dL_law_1859 (fun _ => ?_) (fun c6 => ?_)
  · refine wm_goto 2208 (by decide) dL_law_1874 ?_
    refine wm_loc (ls2 := [(0, .ref b), (1, .ref (ac 0)), (2, .ref (am 0)), (3, .ref (ac 27)), (4, .ref aD), (5, .int x5)]) [2, 3, 4, 5, 6, 7] rfl ?_
    refine wl_widen (k1 := k + 5) (n1 := n + 30) (by omega) (by omega) ?_
    exact kk _ _ _ _ ha.2.2
  · obtain hv9 := ha.2.1 c6
    have hf9 := hf9 c6
    subst hv9
    refine wm_aload_n 1863 rfl dL_law_1862 rfl rfl ?_
    refine wm_iconst (v := 0) 1864 rfl dL_law_1863 (by decide) ?_
    refine wl_lald 1865 rfl dL_law_1864 vin01 ?_
    refine wm_iload 1867 rfl dL_law_1865 rfl ?_
    refine wm_i2l 1868 rfl dL_law_1867 ?_
    refine wm_lcmp 1869 rfl dL_law_1868 ?_
    refine wm_if_eq 1874 1872 rfl (by decide) dL_law_1869 (fun _ => ?_) (fun c8 => absurd ((lg_cmp_eq _ _).mpr hf9) c8)
    refine wm_goto 2208 (by decide) dL_law_1874 ?_
    refine wm_loc (ls2 := [(0, .ref b), (1, .ref (ac 0)), (2, .ref (am 0)), (3, .ref (ac 27)), (4, .ref aD), (5, .int x5)]) [2, 3, 4, 5, 6, 7] rfl ?_
    refine wl_widen (k1 := k + 5) (n1 := n + 30) (by omega) (by omega) ?_
    exact kk _ _ _ _ ha.2.2
theorem lc_agreement (l : Launch) (hst : l.stackTraces = false) {D : va_G} {cT ac am : Nat → Nat} {aD b N sz : Nat} {xs : Nat → Int32} {σ μ : Sg} {o : Nat → Int64} {u : Nat → UInt64} {k n : Nat} {x5 : Int32} (hC : CP σ μ) (hv : ∀ c : Int32, c = 1 ∨ c = 2 ∨ c = 3 ∨ c = 4 → vp_in (x5 + c) N) (hk : k + 5 ≤ 646177 ∧ n + 30 ≤ 7157572) (kk : ∀ (σ1 μ1 : Sg) (o1 : Nat → Int64) (u1 : Nat → UInt64), CP σ1 μ1 → Wl l D cT ac am aD b N sz xs 2208 x5 σ1 μ1 o1 u1 (k + 5) (n + 30)) : Wl l D cT ac am aD b N sz xs 1877 x5 σ μ o u k n := by
  obtain ⟨n9, m9, p9, d9, L9, sn9, hC⟩ := hC
  refine wm_aload_n 1878 rfl dL_law_1877 rfl rfl ?_
  refine wm_aload_n 1879 rfl dL_law_1878 rfl rfl ?_
  refine wm_iload 1881 rfl dL_law_1879 rfl ?_
  refine wm_iconst (v := 1) 1882 rfl dL_law_1881 (by decide) ?_
  refine wm_iadd 1883 rfl dL_law_1882 ?_
  refine wl_sld 1884 rfl dL_law_1883 (hv 1 (Or.inl rfl)) ?_
  refine wm_aload_n 1885 rfl dL_law_1884 rfl rfl ?_
  refine wm_iload 1887 rfl dL_law_1885 rfl ?_
  refine wm_iconst (v := 2) 1888 rfl dL_law_1887 (by decide) ?_
  refine wm_iadd 1889 rfl dL_law_1888 ?_
  refine wl_sld 1890 rfl dL_law_1889 (hv 2 (Or.inr (Or.inl rfl))) ?_
  refine wm_aload 1892 rfl dL_law_1890 rfl ?_
  refine wl_callW (ad := acD ac aD) 1895 rfl dL_law_1892 (w_agreement l _ _ (k_X4_agreement l hst hC.cI hC.cS _ _) (show ∀ E ∈ [eIO, eIO, eNS], E ∈ [eIO, eNS] by decide) (fun v σ1 h => agP_nn hC.1.1.2.2 h) u) aw_30_11 aw_3_23 ⟨by decide +kernel, by decide +kernel, (show (parseMethodDescriptor yL_agreement.desc).map (fun d => d.parameters.length) = some 4 by decide +kernel)⟩ aw_30_10 aw_30_9 ⟨Nat.le_of_ble_eq_true rfl, Nat.le_of_ble_eq_true rfl⟩ (Nat.le_of_ble_eq_true rfl) ⟨Nat.le_trans (Nat.add_le_add_left (show 3 ≤ 5 by decide) k) hk.1, Nat.le_trans (Nat.add_le_add_left (show 18 ≤ 30 by decide) n) hk.2⟩ lX_D (fun σ1 u1 => lX cT ac am aD σ1 μ o u1) (fun _ _ => lX_Dr) rfl (fun k6 σ1 u1 hw => ?_)
  refine wm_istore (ls' := [(6, _), (0, _), (1, _), (2, _), (3, _), (4, _), (5, _)]) 1897 rfl dL_law_1895 (by decide) rfl ?_
  refine wm_aload_n 1898 rfl dL_law_1897 rfl rfl ?_
  refine wm_aload_n 1899 rfl dL_law_1898 rfl rfl ?_
  refine wm_iload 1901 rfl dL_law_1899 rfl ?_
  refine wm_iconst (v := 1) 1902 rfl dL_law_1901 (by decide) ?_
  refine wm_iadd 1903 rfl dL_law_1902 ?_
  refine wl_sld 1904 rfl dL_law_1903 (hv 1 (Or.inl rfl)) ?_
  refine wm_aload_n 1905 rfl dL_law_1904 rfl rfl ?_
  refine wm_iload 1907 rfl dL_law_1905 rfl ?_
  refine wm_iconst (v := 2) 1908 rfl dL_law_1907 (by decide) ?_
  refine wm_iadd 1909 rfl dL_law_1908 ?_
  refine wl_sld 1910 rfl dL_law_1909 (hv 2 (Or.inr (Or.inl rfl))) ?_
  refine wl_callVf (ad := am) 1913 rfl dL_law_1910 (k_X5_agreement l hC.mI hC.mP hC.mQ hC.sM _ _) ca_X5_agreement cv_X5_agreement rfl aw_30_16 rfl rfl ⟨Nat.le_of_ble_eq_true rfl, Nat.le_of_ble_eq_true rfl⟩ (Nat.le_of_ble_eq_true rfl) ⟨Nat.le_trans (Nat.add_le_add_left (show 3 ≤ 5 by decide) k) hk.1, Nat.le_trans (Nat.add_le_add_left (show 18 ≤ 30 by decide) n) hk.2⟩ lX_M (fun μ1 => lX cT ac am aD σ1 μ1 o u1) (fun _ => lX_M.symm) rfl (fun w μ1 hm => ?_)
  refine wm_fstore (ls' := [(7, _), (6, _), (0, _), (1, _), (2, _), (3, _), (4, _), (5, _)]) 1915 rfl dL_law_1913 (by decide) rfl ?_
  refine wm_aload_n 1916 rfl dL_law_1915 rfl rfl ?_
  refine wl_callVi (ad := am) 1919 rfl dL_law_1916 (k_X5_thrown l) ca_X5_thrown cv_X5_thrown rfl aw_5_5 rfl rfl ⟨Nat.le_of_ble_eq_true rfl, Nat.le_of_ble_eq_true rfl⟩ (Nat.le_of_ble_eq_true rfl) ⟨Nat.le_trans (Nat.add_le_add_left (show 3 ≤ 5 by decide) k) hk.1, Nat.le_trans (Nat.add_le_add_left (show 18 ≤ 30 by decide) n) hk.2⟩ lX_M (fun μ2 => lX cT ac am aD σ1 μ2 o u1) (fun _ => lX_M.symm) rfl (fun r9 μ2 h9 => ?_)
  obtain ⟨rfl, rfl⟩ := h9
  obtain ⟨v9, hc9, hf9⟩ := hw
  have ha := q_agreement hC hc9 hm
  refine wm_iload 1921 rfl dL_law_1919 rfl ?_
  refine wm_icmp_eq 1926 1924 rfl (by decide) dL_law_1921 (fun _ => ?_) (fun c9 => absurd ha.1 c9)
  refine wm_iload 1928 rfl dL_law_1926 rfl ?_
  refine wm_if_ne 1964 1931 rfl (by decide) dL_law_1928 (fun _ => ?_) (fun c6 => ?_)
  · refine wm_goto 2208 (by decide) dL_law_1964 ?_
    refine wm_loc (ls2 := [(0, .ref b), (1, .ref (ac 0)), (2, .ref (am 0)), (3, .ref (ac 27)), (4, .ref aD), (5, .int x5)]) [2, 3, 4, 5, 6, 7] rfl ?_
    refine wl_widen (k1 := k + 5) (n1 := n + 30) (by omega) (by omega) ?_
    exact kk _ _ _ _ ha.2.2
  · obtain hv9 := ha.2.1 c6
    have hf9 := hf9 c6
    subst hv9
    refine wm_aload 1933 rfl dL_law_1931 rfl ?_
    refine wm_iconst (v := 0) 1934 rfl dL_law_1933 (by decide) ?_
    refine wl_dald 1935 rfl dL_law_1934 vin01 ?_
    refine wm_fload 1937 rfl dL_law_1935 rfl ?_
    refine wm_f2d 1938 rfl dL_law_1937 hf9.1.1 ?_
    refine wm_dcmp 1939 rfl dL_law_1938 ?_
    refine wm_if_eq 1964 1942 rfl (by decide) dL_law_1939 (fun _ => ?_) (fun c8 => absurd (by rw [show u1 (0 : Int32).toNatClampNeg = FP.f2d v9 from hf9.2, hf9.1.2]; rfl) c8)
    refine wm_goto 2208 (by decide) dL_law_1964 ?_
    refine wm_loc (ls2 := [(0, .ref b), (1, .ref (ac 0)), (2, .ref (am 0)), (3, .ref (ac 27)), (4, .ref aD), (5, .int x5)]) [2, 3, 4, 5, 6, 7] rfl ?_
    refine wl_widen (k1 := k + 5) (n1 := n + 30) (by omega) (by omega) ?_
    exact kk _ _ _ _ ha.2.2
theorem lc_setLimit (l : Launch) (hst : l.stackTraces = false) {D : va_G} {cT ac am : Nat → Nat} {aD b N sz : Nat} {xs : Nat → Int32} {σ μ : Sg} {o : Nat → Int64} {u : Nat → UInt64} {k n : Nat} {x5 : Int32} (hC : CP σ μ) (hv : ∀ c : Int32, c = 1 ∨ c = 2 ∨ c = 3 ∨ c = 4 → vp_in (x5 + c) N) (hk : k + 5 ≤ 646177 ∧ n + 30 ≤ 7157572) (kk : ∀ (σ1 μ1 : Sg) (o1 : Nat → Int64) (u1 : Nat → UInt64), CP σ1 μ1 → Wl l D cT ac am aD b N sz xs 2208 x5 σ1 μ1 o1 u1 (k + 5) (n + 30)) : Wl l D cT ac am aD b N sz xs 1967 x5 σ μ o u k n := by
  obtain ⟨n9, m9, p9, d9, L9, sn9, hC⟩ := hC
  refine wm_aload_n 1968 rfl dL_law_1967 rfl rfl ?_
  refine wm_aload_n 1969 rfl dL_law_1968 rfl rfl ?_
  refine wm_iload 1971 rfl dL_law_1969 rfl ?_
  refine wm_iconst (v := 1) 1972 rfl dL_law_1971 (by decide) ?_
  refine wm_iadd 1973 rfl dL_law_1972 ?_
  refine wl_sld 1974 rfl dL_law_1973 (hv 1 (Or.inl rfl)) ?_
  refine wm_aload_n 1975 rfl dL_law_1974 rfl rfl ?_
  refine wl_callW (ad := ac) 1978 rfl dL_law_1975 (w_setLimit l _ (k_X4_setLimit l hst _) (show ∀ E ∈ [eIA], E ∈ [eIA] by decide) o) aw_30_22 aw_3_23 ⟨by decide +kernel, by decide +kernel, (show (parseMethodDescriptor yL_setLimit.desc).map (fun d => d.parameters.length) = some 3 by decide +kernel)⟩ aw_30_21 aw_30_20 ⟨Nat.le_of_ble_eq_true rfl, Nat.le_of_ble_eq_true rfl⟩ (Nat.le_of_ble_eq_true rfl) ⟨Nat.le_trans (Nat.add_le_add_left (show 1 ≤ 5 by decide) k) hk.1, Nat.le_trans (Nat.add_le_add_left (show 6 ≤ 30 by decide) n) hk.2⟩ (zImp.perm (List.Perm.refl _)) (fun σ1 o1 => lX cT ac am aD σ1 μ o1 u) (fun _ _ => zImp.perm (List.Perm.refl _)) rfl (fun k6 σ1 o1 hw => ?_)
  refine wm_istore (ls' := [(6, _), (0, _), (1, _), (2, _), (3, _), (4, _), (5, _)]) 1980 rfl dL_law_1978 (by decide) rfl ?_
  refine wm_aload_n 1981 rfl dL_law_1980 rfl rfl ?_
  refine wm_aload_n 1982 rfl dL_law_1981 rfl rfl ?_
  refine wm_iload 1984 rfl dL_law_1982 rfl ?_
  refine wm_iconst (v := 1) 1985 rfl dL_law_1984 (by decide) ?_
  refine wm_iadd 1986 rfl dL_law_1985 ?_
  refine wl_sld 1987 rfl dL_law_1986 (hv 1 (Or.inl rfl)) ?_
  refine wl_callVi (ad := am) 1990 rfl dL_law_1987 (k_X5_setLimit l _) ca_X5_setLimit cv_X5_setLimit rfl aw_31_3 rfl rfl ⟨Nat.le_of_ble_eq_true rfl, Nat.le_of_ble_eq_true rfl⟩ (Nat.le_of_ble_eq_true rfl) ⟨Nat.le_trans (Nat.add_le_add_left (show 1 ≤ 5 by decide) k) hk.1, Nat.le_trans (Nat.add_le_add_left (show 6 ≤ 30 by decide) n) hk.2⟩ lX_M (fun μ1 => lX cT ac am aD σ1 μ1 o1 u) (fun _ => lX_M.symm) rfl (fun w μ1 hm => ?_)
  refine wm_istore (ls' := [(7, _), (6, _), (0, _), (1, _), (2, _), (3, _), (4, _), (5, _)]) 1992 rfl dL_law_1990 (by decide) rfl ?_
  refine wm_aload_n 1993 rfl dL_law_1992 rfl rfl ?_
  refine wl_callVi (ad := am) 1996 rfl dL_law_1993 (k_X5_thrown l) ca_X5_thrown cv_X5_thrown rfl aw_5_5 rfl rfl ⟨Nat.le_of_ble_eq_true rfl, Nat.le_of_ble_eq_true rfl⟩ (Nat.le_of_ble_eq_true rfl) ⟨Nat.le_trans (Nat.add_le_add_left (show 1 ≤ 5 by decide) k) hk.1, Nat.le_trans (Nat.add_le_add_left (show 6 ≤ 30 by decide) n) hk.2⟩ lX_M (fun μ2 => lX cT ac am aD σ1 μ2 o1 u) (fun _ => lX_M.symm) rfl (fun r9 μ2 h9 => ?_)
  obtain ⟨rfl, rfl⟩ := h9
  obtain ⟨v9, hc9, hf9⟩ := hw
  have ha := q_setLimit hC hc9 hm
  refine wm_iload 1998 rfl dL_law_1996 rfl ?_
  refine wm_icmp_eq 2003 2001 rfl (by decide) dL_law_1998 (fun _ => ?_) (fun c9 => absurd ha.1 c9)
  refine wm_iload 2005 rfl dL_law_2003 rfl ?_
  refine wm_if_ne 2020 2008 rfl (by decide) dL_law_2005 (fun _ => ?_) (fun c6 => ?_)
  · refine wm_goto 2208 (by decide) dL_law_2020 ?_
    refine wm_loc (ls2 := [(0, .ref b), (1, .ref (ac 0)), (2, .ref (am 0)), (3, .ref (ac 27)), (4, .ref aD), (5, .int x5)]) [2, 3, 4, 5, 6, 7] rfl ?_
    refine wl_widen (k1 := k + 5) (n1 := n + 30) (by omega) (by omega) ?_
    exact kk _ _ _ _ ha.2.2
  · obtain hv9 := ha.2.1 c6
    have hf9 := hf9 c6
    subst hv9
    refine wm_aload_n 2009 rfl dL_law_2008 rfl rfl ?_
    refine wm_iconst (v := 0) 2010 rfl dL_law_2009 (by decide) ?_
    refine wl_lald 2011 rfl dL_law_2010 vin01 ?_
    refine wm_iload 2013 rfl dL_law_2011 rfl ?_
    refine wm_i2l 2014 rfl dL_law_2013 ?_
    refine wm_lcmp 2015 rfl dL_law_2014 ?_
    refine wm_if_eq 2020 2018 rfl (by decide) dL_law_2015 (fun _ => ?_) (fun c8 => absurd ((lg_cmp_eq _ _).mpr hf9) c8)
    refine wm_goto 2208 (by decide) dL_law_2020 ?_
    refine wm_loc (ls2 := [(0, .ref b), (1, .ref (ac 0)), (2, .ref (am 0)), (3, .ref (ac 27)), (4, .ref aD), (5, .int x5)]) [2, 3, 4, 5, 6, 7] rfl ?_
    refine wl_widen (k1 := k + 5) (n1 := n + 30) (by omega) (by omega) ?_
    exact kk _ _ _ _ ha.2.2
theorem lc_isGhost (l : Launch) (hst : l.stackTraces = false) {D : va_G} {cT ac am : Nat → Nat} {aD b N sz : Nat} {xs : Nat → Int32} {σ μ : Sg} {o : Nat → Int64} {u : Nat → UInt64} {k n : Nat} {x5 : Int32} (hC : CP σ μ) (hv : ∀ c : Int32, c = 1 ∨ c = 2 ∨ c = 3 ∨ c = 4 → vp_in (x5 + c) N) (hk : k + 5 ≤ 646177 ∧ n + 30 ≤ 7157572) (kk : ∀ (σ1 μ1 : Sg) (o1 : Nat → Int64) (u1 : Nat → UInt64), CP σ1 μ1 → Wl l D cT ac am aD b N sz xs 2208 x5 σ1 μ1 o1 u1 (k + 5) (n + 30)) : Wl l D cT ac am aD b N sz xs 2023 x5 σ μ o u k n := by
  obtain ⟨n9, m9, p9, d9, L9, sn9, hC⟩ := hC
  refine wm_aload_n 2024 rfl dL_law_2023 rfl rfl ?_
  refine wm_aload_n 2025 rfl dL_law_2024 rfl rfl ?_
  refine wm_iload 2027 rfl dL_law_2025 rfl ?_
  refine wm_iconst (v := 1) 2028 rfl dL_law_2027 (by decide) ?_
  refine wm_iadd 2029 rfl dL_law_2028 ?_
  refine wl_sld 2030 rfl dL_law_2029 (hv 1 (Or.inl rfl)) ?_
  refine wm_aload_n 2031 rfl dL_law_2030 rfl rfl ?_
  refine wl_callW (ad := ac) 2034 rfl dL_law_2031 (w_isGhost l _ (k_X4_isGhost l hst hC.cI hC.cD _) (show ∀ E ∈ [eIO], E ∈ [eIO] by decide) (fun v σ1 h => by obtain ⟨a, _, _, _, rfl⟩ := h; exact zp_01) o) aw_31_9 aw_3_23 ⟨by decide +kernel, by decide +kernel, (show (parseMethodDescriptor yL_isGhost.desc).map (fun d => d.parameters.length) = some 3 by decide +kernel)⟩ aw_31_8 aw_31_7 ⟨Nat.le_of_ble_eq_true rfl, Nat.le_of_ble_eq_true rfl⟩ (Nat.le_of_ble_eq_true rfl) ⟨Nat.le_trans (Nat.add_le_add_left (show 1 ≤ 5 by decide) k) hk.1, Nat.le_trans (Nat.add_le_add_left (show 6 ≤ 30 by decide) n) hk.2⟩ (zImp.perm (List.Perm.refl _)) (fun σ1 o1 => lX cT ac am aD σ1 μ o1 u) (fun _ _ => zImp.perm (List.Perm.refl _)) rfl (fun k6 σ1 o1 hw => ?_)
  refine wm_istore (ls' := [(6, _), (0, _), (1, _), (2, _), (3, _), (4, _), (5, _)]) 2036 rfl dL_law_2034 (by decide) rfl ?_
  refine wm_aload_n 2037 rfl dL_law_2036 rfl rfl ?_
  refine wm_aload_n 2038 rfl dL_law_2037 rfl rfl ?_
  refine wm_iload 2040 rfl dL_law_2038 rfl ?_
  refine wm_iconst (v := 1) 2041 rfl dL_law_2040 (by decide) ?_
  refine wm_iadd 2042 rfl dL_law_2041 ?_
  refine wl_sld 2043 rfl dL_law_2042 (hv 1 (Or.inl rfl)) ?_
  refine wl_callVi (ad := am) 2046 rfl dL_law_2043 (k_X5_isGhost l hC.mI hC.mP hC.mQ hC.cDM hC.2.2.2.2.2.2.2.2.1 _) ca_X5_isGhost cv_X5_isGhost rfl aw_31_23 rfl rfl ⟨Nat.le_of_ble_eq_true rfl, Nat.le_of_ble_eq_true rfl⟩ (Nat.le_of_ble_eq_true rfl) ⟨Nat.le_trans (Nat.add_le_add_left (show 1 ≤ 5 by decide) k) hk.1, Nat.le_trans (Nat.add_le_add_left (show 6 ≤ 30 by decide) n) hk.2⟩ lX_M (fun μ1 => lX cT ac am aD σ1 μ1 o1 u) (fun _ => lX_M.symm) rfl (fun w μ1 hm => ?_)
  refine wm_istore (ls' := [(7, _), (6, _), (0, _), (1, _), (2, _), (3, _), (4, _), (5, _)]) 2048 rfl dL_law_2046 (by decide) rfl ?_
  refine wm_aload_n 2049 rfl dL_law_2048 rfl rfl ?_
  refine wl_callVi (ad := am) 2052 rfl dL_law_2049 (k_X5_thrown l) ca_X5_thrown cv_X5_thrown rfl aw_5_5 rfl rfl ⟨Nat.le_of_ble_eq_true rfl, Nat.le_of_ble_eq_true rfl⟩ (Nat.le_of_ble_eq_true rfl) ⟨Nat.le_trans (Nat.add_le_add_left (show 1 ≤ 5 by decide) k) hk.1, Nat.le_trans (Nat.add_le_add_left (show 6 ≤ 30 by decide) n) hk.2⟩ lX_M (fun μ2 => lX cT ac am aD σ1 μ2 o1 u) (fun _ => lX_M.symm) rfl (fun r9 μ2 h9 => ?_)
  obtain ⟨rfl, rfl⟩ := h9
  obtain ⟨v9, hc9, hf9⟩ := hw
  have ha := q_isGhost hC hc9 hm
  refine wm_iload 2054 rfl dL_law_2052 rfl ?_
  refine wm_icmp_eq 2059 2057 rfl (by decide) dL_law_2054 (fun _ => ?_) (fun c9 => absurd ha.1 c9)
  refine wm_iload 2061 rfl dL_law_2059 rfl ?_
  refine wm_if_ne 2083 2064 rfl (by decide) dL_law_2061 (fun _ => ?_) (fun c6 => ?_)
  · refine wm_goto 2208 (by decide) dL_law_2083 ?_
    refine wm_loc (ls2 := [(0, .ref b), (1, .ref (ac 0)), (2, .ref (am 0)), (3, .ref (ac 27)), (4, .ref aD), (5, .int x5)]) [2, 3, 4, 5, 6, 7] rfl ?_
    refine wl_widen (k1 := k + 5) (n1 := n + 30) (by omega) (by omega) ?_
    exact kk _ _ _ _ ha.2.2
  · obtain hv9 := ha.2.1 c6
    have hf9 := hf9 c6
    subst hv9
    refine wm_aload_n 2065 rfl dL_law_2064 rfl rfl ?_
    refine wm_iconst (v := 0) 2066 rfl dL_law_2065 (by decide) ?_
    refine wl_lald 2067 rfl dL_law_2066 vin01 ?_
    refine wm_iload 2069 rfl dL_law_2067 rfl ?_
    refine wm_if_eq 2076 2072 rfl (by decide) dL_law_2069 (fun c7 => ?_) (fun c7 => ?_)
    · refine wm_lconst (v := 0) 2077 rfl dL_law_2076 (by decide) ?_
      refine wm_lcmp 2078 rfl dL_law_2077 ?_
      refine wm_if_eq 2083 2081 rfl (by decide) dL_law_2078 (fun _ => ?_) (fun c8 => absurd ((lg_cmp_eq _ _).mpr (show o1 0 = 0 from hf9.2.trans (by rw [show v9 = 0 from c7]; rfl))) c8)
      refine wm_goto 2208 (by decide) dL_law_2083 ?_
      refine wm_loc (ls2 := [(0, .ref b), (1, .ref (ac 0)), (2, .ref (am 0)), (3, .ref (ac 27)), (4, .ref aD), (5, .int x5)]) [2, 3, 4, 5, 6, 7] rfl ?_
      refine wl_widen (k1 := k + 5) (n1 := n + 30) (by omega) (by omega) ?_
      exact kk _ _ _ _ ha.2.2
    · refine wm_lconst (v := 1) 2073 rfl dL_law_2072 (by decide) ?_
      refine wm_goto 2077 (by decide) dL_law_2073 ?_
      refine wm_lcmp 2078 rfl dL_law_2077 ?_
      refine wm_if_eq 2083 2081 rfl (by decide) dL_law_2078 (fun _ => ?_) (fun c8 => absurd ((lg_cmp_eq _ _).mpr (show o1 0 = 1 from hf9.2.trans (by rw [hf9.1.resolve_left c7]; rfl))) c8)
      refine wm_goto 2208 (by decide) dL_law_2083 ?_
      refine wm_loc (ls2 := [(0, .ref b), (1, .ref (ac 0)), (2, .ref (am 0)), (3, .ref (ac 27)), (4, .ref aD), (5, .int x5)]) [2, 3, 4, 5, 6, 7] rfl ?_
      refine wl_widen (k1 := k + 5) (n1 := n + 30) (by omega) (by omega) ?_
      exact kk _ _ _ _ ha.2.2
theorem lc_ghosts (l : Launch) (hst : l.stackTraces = false) {D : va_G} {cT ac am : Nat → Nat} {aD b N sz : Nat} {xs : Nat → Int32} {σ μ : Sg} {o : Nat → Int64} {u : Nat → UInt64} {k n : Nat} {x5 : Int32} (hC : CP σ μ) (hv : ∀ c : Int32, c = 1 ∨ c = 2 ∨ c = 3 ∨ c = 4 → vp_in (x5 + c) N) (hk : k + 5 ≤ 646177 ∧ n + 30 ≤ 7157572) (kk : ∀ (σ1 μ1 : Sg) (o1 : Nat → Int64) (u1 : Nat → UInt64), CP σ1 μ1 → Wl l D cT ac am aD b N sz xs 2208 x5 σ1 μ1 o1 u1 (k + 5) (n + 30)) : Wl l D cT ac am aD b N sz xs 2086 x5 σ μ o u k n := by
  obtain ⟨n9, m9, p9, d9, L9, sn9, hC⟩ := hC
  refine wm_aload_n 2087 rfl dL_law_2086 rfl rfl ?_
  refine wl_callVi (ad := ac) 2090 rfl dL_law_2087 (k_X4_ghosts l hC.cI hC.cD) ca_X4_ghosts cv_X4_ghosts rfl aw_32_8 rfl rfl ⟨Nat.le_of_ble_eq_true rfl, Nat.le_of_ble_eq_true rfl⟩ (Nat.le_of_ble_eq_true rfl) ⟨Nat.le_trans (Nat.le_add_right k 5) hk.1, Nat.le_trans (Nat.le_add_right n 30) hk.2⟩ lX_C (fun σ1 => lX cT ac am aD σ1 μ o u) (fun _ => lX_C.symm) rfl (fun v9 σ1 hp9 => ?_)
  refine wm_aload_n 2091 rfl dL_law_2090 rfl rfl ?_
  refine wl_callVi (ad := am) 2094 rfl dL_law_2091 (k_X5_ghosts l hC.mI hC.mP hC.mQ hC.cDM hC.2.2.2.2.2.2.2.2.1) ca_X5_ghosts cv_X5_ghosts rfl aw_32_12 rfl rfl ⟨Nat.le_of_ble_eq_true rfl, Nat.le_of_ble_eq_true rfl⟩ (Nat.le_of_ble_eq_true rfl) ⟨Nat.le_trans (Nat.le_add_right k 5) hk.1, Nat.le_trans (Nat.le_add_right n 30) hk.2⟩ lX_M (fun μ1 => lX cT ac am aD σ1 μ1 o u) (fun _ => lX_M.symm) rfl (fun w μ1 hm => ?_)
  have ha := q_ghosts hC hp9 hm
  refine wm_icmp_eq 2208 2097 rfl (by decide) dL_law_2094 (fun _ => ?_) (fun c9 => absurd ha.1 c9)
  refine wl_widen (k1 := k + 5) (n1 := n + 30) (by omega) (by omega) ?_
  exact kk _ _ _ _ ha.2
theorem lc_nextGhost (l : Launch) (hst : l.stackTraces = false) {D : va_G} {cT ac am : Nat → Nat} {aD b N sz : Nat} {xs : Nat → Int32} {σ μ : Sg} {o : Nat → Int64} {u : Nat → UInt64} {k n : Nat} {x5 : Int32} (hC : CP σ μ) (hv : ∀ c : Int32, c = 1 ∨ c = 2 ∨ c = 3 ∨ c = 4 → vp_in (x5 + c) N) (hk : k + 5 ≤ 646177 ∧ n + 30 ≤ 7157572) (kk : ∀ (σ1 μ1 : Sg) (o1 : Nat → Int64) (u1 : Nat → UInt64), CP σ1 μ1 → Wl l D cT ac am aD b N sz xs 2208 x5 σ1 μ1 o1 u1 (k + 5) (n + 30)) : Wl l D cT ac am aD b N sz xs 2099 x5 σ μ o u k n := by
  obtain ⟨n9, m9, p9, d9, L9, sn9, hC⟩ := hC
  refine wm_aload_n 2100 rfl dL_law_2099 rfl rfl ?_
  refine wl_callVi (ad := ac) 2103 rfl dL_law_2100 (k_X4_nextGhost l hC.cI hC.cD) ca_X4_nextGhost cv_X4_nextGhost rfl aw_32_16 rfl rfl ⟨Nat.le_of_ble_eq_true rfl, Nat.le_of_ble_eq_true rfl⟩ (Nat.le_of_ble_eq_true rfl) ⟨Nat.le_trans (Nat.le_add_right k 5) hk.1, Nat.le_trans (Nat.le_add_right n 30) hk.2⟩ lX_C (fun σ1 => lX cT ac am aD σ1 μ o u) (fun _ => lX_C.symm) rfl (fun v9 σ1 hp9 => ?_)
  refine wm_aload_n 2104 rfl dL_law_2103 rfl rfl ?_
  refine wl_callVi (ad := am) 2107 rfl dL_law_2104 (k_X5_nextGhost l hC.mI hC.mP hC.mQ hC.cDM hC.2.2.2.2.2.2.2.2.1) ca_X5_nextGhost cv_X5_nextGhost rfl aw_32_20 rfl rfl ⟨Nat.le_of_ble_eq_true rfl, Nat.le_of_ble_eq_true rfl⟩ (Nat.le_of_ble_eq_true rfl) ⟨Nat.le_trans (Nat.le_add_right k 5) hk.1, Nat.le_trans (Nat.le_add_right n 30) hk.2⟩ lX_M (fun μ1 => lX cT ac am aD σ1 μ1 o u) (fun _ => lX_M.symm) rfl (fun w μ1 hm => ?_)
  have ha := q_nextGhost hC hp9 hm
  refine wm_icmp_eq 2208 2110 rfl (by decide) dL_law_2107 (fun _ => ?_) (fun c9 => absurd ha.1 c9)
  refine wl_widen (k1 := k + 5) (n1 := n + 30) (by omega) (by omega) ?_
  exact kk _ _ _ _ ha.2
theorem lc_nextGhostByDays (l : Launch) (hst : l.stackTraces = false) {D : va_G} {cT ac am : Nat → Nat} {aD b N sz : Nat} {xs : Nat → Int32} {σ μ : Sg} {o : Nat → Int64} {u : Nat → UInt64} {k n : Nat} {x5 : Int32} (hC : CP σ μ) (hv : ∀ c : Int32, c = 1 ∨ c = 2 ∨ c = 3 ∨ c = 4 → vp_in (x5 + c) N) (hk : k + 5 ≤ 646177 ∧ n + 30 ≤ 7157572) (kk : ∀ (σ1 μ1 : Sg) (o1 : Nat → Int64) (u1 : Nat → UInt64), CP σ1 μ1 → Wl l D cT ac am aD b N sz xs 2208 x5 σ1 μ1 o1 u1 (k + 5) (n + 30)) : Wl l D cT ac am aD b N sz xs 2112 x5 σ μ o u k n := by
  obtain ⟨n9, m9, p9, d9, L9, sn9, hC⟩ := hC
  refine wm_aload_n 2113 rfl dL_law_2112 rfl rfl ?_
  refine wl_callVi (ad := ac) 2116 rfl dL_law_2113 (k_X4_nextGhostByDays l hC.cI hC.cD) ca_X4_nextGhostByDays cv_X4_nextGhostByDays rfl aw_33_0 rfl rfl ⟨Nat.le_of_ble_eq_true rfl, Nat.le_of_ble_eq_true rfl⟩ (Nat.le_of_ble_eq_true rfl) ⟨Nat.le_trans (Nat.le_add_right k 5) hk.1, Nat.le_trans (Nat.le_add_right n 30) hk.2⟩ lX_C (fun σ1 => lX cT ac am aD σ1 μ o u) (fun _ => lX_C.symm) rfl (fun v9 σ1 hp9 => ?_)
  refine wm_aload_n 2117 rfl dL_law_2116 rfl rfl ?_
  refine wl_callVi (ad := am) 2120 rfl dL_law_2117 (k_X5_nextGhostByDays l hC.mI hC.mP hC.mQ hC.cDM hC.2.2.2.2.2.2.2.2.1) ca_X5_nextGhostByDays cv_X5_nextGhostByDays rfl aw_33_9 rfl rfl ⟨Nat.le_of_ble_eq_true rfl, Nat.le_of_ble_eq_true rfl⟩ (Nat.le_of_ble_eq_true rfl) ⟨Nat.le_trans (Nat.le_add_right k 5) hk.1, Nat.le_trans (Nat.le_add_right n 30) hk.2⟩ lX_M (fun μ1 => lX cT ac am aD σ1 μ1 o u) (fun _ => lX_M.symm) rfl (fun w μ1 hm => ?_)
  have ha := q_nextGhostByDays hC hp9 hm
  refine wm_icmp_eq 2208 2123 rfl (by decide) dL_law_2120 (fun _ => ?_) (fun c9 => absurd ha.1 c9)
  refine wl_widen (k1 := k + 5) (n1 := n + 30) (by omega) (by omega) ?_
  exact kk _ _ _ _ ha.2
theorem lc_pass (l : Launch) (hst : l.stackTraces = false) {D : va_G} {cT ac am : Nat → Nat} {aD b N sz : Nat} {xs : Nat → Int32} {σ μ : Sg} {o : Nat → Int64} {u : Nat → UInt64} {k n : Nat} {x5 : Int32} (hC : CP σ μ) (hv : ∀ c : Int32, c = 1 ∨ c = 2 ∨ c = 3 ∨ c = 4 → vp_in (x5 + c) N) (hk : k + 5 ≤ 646177 ∧ n + 30 ≤ 7157572) (kk : ∀ (σ1 μ1 : Sg) (o1 : Nat → Int64) (u1 : Nat → UInt64), CP σ1 μ1 → Wl l D cT ac am aD b N sz xs 2208 x5 σ1 μ1 o1 u1 (k + 5) (n + 30)) : Wl l D cT ac am aD b N sz xs 2125 x5 σ μ o u k n := by
  obtain ⟨n9, m9, p9, d9, L9, sn9, hC⟩ := hC
  refine wm_aload_n 2126 rfl dL_law_2125 rfl rfl ?_
  refine wm_aload_n 2127 rfl dL_law_2126 rfl rfl ?_
  refine wm_iload 2129 rfl dL_law_2127 rfl ?_
  refine wm_iconst (v := 1) 2130 rfl dL_law_2129 (by decide) ?_
  refine wm_iadd 2131 rfl dL_law_2130 ?_
  refine wl_sld 2132 rfl dL_law_2131 (hv 1 (Or.inl rfl)) ?_
  refine wm_aload_n 2133 rfl dL_law_2132 rfl rfl ?_
  refine wl_callW (ad := ac) 2136 rfl dL_law_2133 (w_pass l _ (k_X4_pass l hst _) (show ∀ E ∈ [eIA, eIA], E ∈ [eIA] by decide) o) aw_33_16 aw_3_23 ⟨by decide +kernel, by decide +kernel, (show (parseMethodDescriptor yL_pass.desc).map (fun d => d.parameters.length) = some 3 by decide +kernel)⟩ aw_33_15 aw_33_14 ⟨Nat.le_of_ble_eq_true rfl, Nat.le_of_ble_eq_true rfl⟩ (Nat.le_of_ble_eq_true rfl) ⟨Nat.le_trans (Nat.add_le_add_left (show 2 ≤ 5 by decide) k) hk.1, Nat.le_trans (Nat.add_le_add_left (show 12 ≤ 30 by decide) n) hk.2⟩ (zImp.perm (List.Perm.refl _)) (fun σ1 o1 => lX cT ac am aD σ1 μ o1 u) (fun _ _ => zImp.perm (List.Perm.refl _)) rfl (fun k6 σ1 o1 hw => ?_)
  refine wm_istore (ls' := [(6, _), (0, _), (1, _), (2, _), (3, _), (4, _), (5, _)]) 2138 rfl dL_law_2136 (by decide) rfl ?_
  refine wm_aload_n 2139 rfl dL_law_2138 rfl rfl ?_
  refine wm_aload_n 2140 rfl dL_law_2139 rfl rfl ?_
  refine wm_iload 2142 rfl dL_law_2140 rfl ?_
  refine wm_iconst (v := 1) 2143 rfl dL_law_2142 (by decide) ?_
  refine wm_iadd 2144 rfl dL_law_2143 ?_
  refine wl_sld 2145 rfl dL_law_2144 (hv 1 (Or.inl rfl)) ?_
  refine wl_callVi (ad := am) 2148 rfl dL_law_2145 (k_X5_pass l _) ca_X5_pass cv_X5_pass rfl aw_33_21 rfl rfl ⟨Nat.le_of_ble_eq_true rfl, Nat.le_of_ble_eq_true rfl⟩ (Nat.le_of_ble_eq_true rfl) ⟨Nat.le_trans (Nat.add_le_add_left (show 2 ≤ 5 by decide) k) hk.1, Nat.le_trans (Nat.add_le_add_left (show 12 ≤ 30 by decide) n) hk.2⟩ lX_M (fun μ1 => lX cT ac am aD σ1 μ1 o1 u) (fun _ => lX_M.symm) rfl (fun w μ1 hm => ?_)
  refine wm_istore (ls' := [(7, _), (6, _), (0, _), (1, _), (2, _), (3, _), (4, _), (5, _)]) 2150 rfl dL_law_2148 (by decide) rfl ?_
  refine wm_aload_n 2151 rfl dL_law_2150 rfl rfl ?_
  refine wl_callVi (ad := am) 2154 rfl dL_law_2151 (k_X5_thrown l) ca_X5_thrown cv_X5_thrown rfl aw_5_5 rfl rfl ⟨Nat.le_of_ble_eq_true rfl, Nat.le_of_ble_eq_true rfl⟩ (Nat.le_of_ble_eq_true rfl) ⟨Nat.le_trans (Nat.add_le_add_left (show 2 ≤ 5 by decide) k) hk.1, Nat.le_trans (Nat.add_le_add_left (show 12 ≤ 30 by decide) n) hk.2⟩ lX_M (fun μ2 => lX cT ac am aD σ1 μ2 o1 u) (fun _ => lX_M.symm) rfl (fun r9 μ2 h9 => ?_)
  obtain ⟨rfl, rfl⟩ := h9
  obtain ⟨v9, hc9, hf9⟩ := hw
  have ha := q_pass hC hc9 hm
  refine wm_iload 2156 rfl dL_law_2154 rfl ?_
  refine wm_icmp_eq 2161 2159 rfl (by decide) dL_law_2156 (fun _ => ?_) (fun c9 => absurd ha.1 c9)
  refine wm_iload 2163 rfl dL_law_2161 rfl ?_
  refine wm_if_ne 2178 2166 rfl (by decide) dL_law_2163 (fun _ => ?_) (fun c6 => ?_)
  · refine wm_goto 2208 (by decide) dL_law_2178 ?_
    refine wm_loc (ls2 := [(0, .ref b), (1, .ref (ac 0)), (2, .ref (am 0)), (3, .ref (ac 27)), (4, .ref aD), (5, .int x5)]) [2, 3, 4, 5, 6, 7] rfl ?_
    refine wl_widen (k1 := k + 5) (n1 := n + 30) (by omega) (by omega) ?_
    exact kk _ _ _ _ ha.2.2
  · obtain hv9 := ha.2.1 c6
    have hf9 := hf9 c6
    subst hv9
    refine wm_aload_n 2167 rfl dL_law_2166 rfl rfl ?_
    refine wm_iconst (v := 0) 2168 rfl dL_law_2167 (by decide) ?_
    refine wl_lald 2169 rfl dL_law_2168 vin01 ?_
    refine wm_iload 2171 rfl dL_law_2169 rfl ?_
    refine wm_i2l 2172 rfl dL_law_2171 ?_
    refine wm_lcmp 2173 rfl dL_law_2172 ?_
    refine wm_if_eq 2178 2176 rfl (by decide) dL_law_2173 (fun _ => ?_) (fun c8 => absurd ((lg_cmp_eq _ _).mpr hf9) c8)
    refine wm_goto 2208 (by decide) dL_law_2178 ?_
    refine wm_loc (ls2 := [(0, .ref b), (1, .ref (ac 0)), (2, .ref (am 0)), (3, .ref (ac 27)), (4, .ref aD), (5, .int x5)]) [2, 3, 4, 5, 6, 7] rfl ?_
    refine wl_widen (k1 := k + 5) (n1 := n + 30) (by omega) (by omega) ?_
    exact kk _ _ _ _ ha.2.2
theorem lc_today (l : Launch) (hst : l.stackTraces = false) {D : va_G} {cT ac am : Nat → Nat} {aD b N sz : Nat} {xs : Nat → Int32} {σ μ : Sg} {o : Nat → Int64} {u : Nat → UInt64} {k n : Nat} {x5 : Int32} (hC : CP σ μ) (hv : ∀ c : Int32, c = 1 ∨ c = 2 ∨ c = 3 ∨ c = 4 → vp_in (x5 + c) N) (hk : k + 5 ≤ 646177 ∧ n + 30 ≤ 7157572) (kk : ∀ (σ1 μ1 : Sg) (o1 : Nat → Int64) (u1 : Nat → UInt64), CP σ1 μ1 → Wl l D cT ac am aD b N sz xs 2208 x5 σ1 μ1 o1 u1 (k + 5) (n + 30)) : Wl l D cT ac am aD b N sz xs 2181 x5 σ μ o u k n := by
  obtain ⟨n9, m9, p9, d9, L9, sn9, hC⟩ := hC
  refine wm_aload_n 2182 rfl dL_law_2181 rfl rfl ?_
  refine wl_callVi (ad := ac) 2185 rfl dL_law_2182 (k_X4_today l) ca_X4_today cv_X4_today rfl aw_34_1 rfl rfl ⟨Nat.le_of_ble_eq_true rfl, Nat.le_of_ble_eq_true rfl⟩ (Nat.le_of_ble_eq_true rfl) ⟨Nat.le_trans (Nat.le_add_right k 5) hk.1, Nat.le_trans (Nat.le_add_right n 30) hk.2⟩ lX_C (fun σ1 => lX cT ac am aD σ1 μ o u) (fun _ => lX_C.symm) rfl (fun v9 σ1 hp9 => ?_)
  refine wm_aload_n 2186 rfl dL_law_2185 rfl rfl ?_
  refine wl_callVi (ad := am) 2189 rfl dL_law_2186 (k_X5_today l) ca_X5_today cv_X5_today rfl aw_34_5 rfl rfl ⟨Nat.le_of_ble_eq_true rfl, Nat.le_of_ble_eq_true rfl⟩ (Nat.le_of_ble_eq_true rfl) ⟨Nat.le_trans (Nat.le_add_right k 5) hk.1, Nat.le_trans (Nat.le_add_right n 30) hk.2⟩ lX_M (fun μ1 => lX cT ac am aD σ1 μ1 o u) (fun _ => lX_M.symm) rfl (fun w μ1 hm => ?_)
  have ha := q_today hC hp9 hm
  refine wm_icmp_eq 2208 2192 rfl (by decide) dL_law_2189 (fun _ => ?_) (fun c9 => absurd ha.1 c9)
  refine wl_widen (k1 := k + 5) (n1 := n + 30) (by omega) (by omega) ?_
  exact kk _ _ _ _ ha.2
theorem lc_mark (l : Launch) (hst : l.stackTraces = false) {D : va_G} {cT ac am : Nat → Nat} {aD b N sz : Nat} {xs : Nat → Int32} {σ μ : Sg} {o : Nat → Int64} {u : Nat → UInt64} {k n : Nat} {x5 : Int32} (hC : CP σ μ) (hv : ∀ c : Int32, c = 1 ∨ c = 2 ∨ c = 3 ∨ c = 4 → vp_in (x5 + c) N) (hk : k + 5 ≤ 646177 ∧ n + 30 ≤ 7157572) (kk : ∀ (σ1 μ1 : Sg) (o1 : Nat → Int64) (u1 : Nat → UInt64), CP σ1 μ1 → Wl l D cT ac am aD b N sz xs 2208 x5 σ1 μ1 o1 u1 (k + 5) (n + 30)) : Wl l D cT ac am aD b N sz xs 2194 x5 σ μ o u k n := by
  obtain ⟨n9, m9, p9, d9, L9, sn9, hC⟩ := hC
  refine wm_aload_n 2195 rfl dL_law_2194 rfl rfl ?_
  refine wl_callVl (ad := ac) 2198 rfl dL_law_2195 (k_X4_mark l hC.cI) ca_X4_mark cv_X4_mark rfl aw_34_9 rfl rfl ⟨Nat.le_of_ble_eq_true rfl, Nat.le_of_ble_eq_true rfl⟩ (Nat.le_of_ble_eq_true rfl) ⟨Nat.le_trans (Nat.le_add_right k 5) hk.1, Nat.le_trans (Nat.le_add_right n 30) hk.2⟩ lX_C (fun σ1 => lX cT ac am aD σ1 μ o u) (fun _ => lX_C.symm) rfl (fun v9 σ1 hp9 => ?_)
  refine wm_aload_n 2199 rfl dL_law_2198 rfl rfl ?_
  refine wl_callVl (ad := am) 2202 rfl dL_law_2199 (k_X5_mark l hC.mI hC.mP hC.mQ) ca_X5_mark cv_X5_mark rfl aw_34_17 rfl rfl ⟨Nat.le_of_ble_eq_true rfl, Nat.le_of_ble_eq_true rfl⟩ (Nat.le_of_ble_eq_true rfl) ⟨Nat.le_trans (Nat.le_add_right k 5) hk.1, Nat.le_trans (Nat.le_add_right n 30) hk.2⟩ lX_M (fun μ1 => lX cT ac am aD σ1 μ1 o u) (fun _ => lX_M.symm) rfl (fun w μ1 hm => ?_)
  have ha := q_mark hC hp9 hm
  refine wm_lcmp 2203 rfl dL_law_2202 ?_
  refine wm_if_eq 2208 2206 rfl (by decide) dL_law_2203 (fun _ => ?_) (fun c8 => absurd ((lg_cmp_eq _ _).mpr ha.1) c8)
  refine wl_widen (k1 := k + 5) (n1 := n + 30) (by omega) (by omega) ?_
  exact kk _ _ _ _ ha.2
