/-! Frames, on (written by program). -/
def fl_mm_join : List Nat := [35, 43, 44]
theorem mm_join_l66_fr {F : Nat} {a1800 : Int32} {a1801 : Int32} {a1802 : Int32} {a1803 : Int32} {k : xm_S → Option (Int32 × xm_S)} {r : Int32} {m0 m' : xm_S} 
    (hk : ∀ (m : xm_S), xf_r fl_mm_join m0 m → k m = some (r, m') → xf_r fl_mm_join m0 m') : ∀ (fu : Nat) (a1804 : Int32) (m1799 : xm_S), xf_r fl_mm_join m0 m1799 → mm_join_l66 F a1800 a1801 a1802 a1803 k fu a1804 m1799 = some (r, m') → xf_r fl_mm_join m0 m' := by
  intro fu
  induction fu with
  | zero => intro a1804 m1799 gg h; cases h
  | succ fu ih =>
    intro a1804 m1799 gg h
    rw [mm_join_l66] at h
    obtain ⟨-, h⟩ := xg_e h
    by_cases c1806 : (m1799.1 42 a1801.toNatClampNeg) ≤ a1804
    · replace h := (if_pos c1806).symm.trans h
      exact hk m1799 gg h
    · replace h := (if_neg c1806).symm.trans h
      by_cases c1807 : (60 : Int32) < (m1799.1 35 9)
      · replace h := (if_pos c1807).symm.trans h
        exact hk m1799 gg h
      · replace h := (if_neg c1807).symm.trans h
        obtain ⟨-, h⟩ := xg_e h
        obtain ⟨-, h⟩ := xg_e h
        obtain ⟨m1836, e1837, h⟩ := xc_v_e h
        have g2702 : xf_r fl_mm_join m0 m1836 := xf_t gg (xf_s rfl (mm_keep_fr e1837))
        exact ih (a1804 + (1 : Int32)) m1836 g2702 h
theorem mm_join_l57_fr {F : Nat} {a1794 : Int32} {a1795 : Int32} {a1796 : Int32} {k : xm_S → Option (Int32 × xm_S)} {r : Int32} {m0 m' : xm_S} 
    (hk : ∀ (m : xm_S), xf_r fl_mm_join m0 m → k m = some (r, m') → xf_r fl_mm_join m0 m') : ∀ (fu : Nat) (a1797 : Int32) (m1793 : xm_S), xf_r fl_mm_join m0 m1793 → mm_join_l57 F a1794 a1795 a1796 k fu a1797 m1793 = some (r, m') → xf_r fl_mm_join m0 m' := by
  intro fu
  induction fu with
  | zero => intro a1797 m1793 gg h; cases h
  | succ fu ih =>
    intro a1797 m1793 gg h
    rw [mm_join_l57] at h
    by_cases c1798 : a1796 ≤ a1797
    · replace h := (if_pos c1798).symm.trans h
      exact hk m1793 gg h
    · replace h := (if_neg c1798).symm.trans h
      refine mm_join_l66_fr (fun m1839 g2703 h => ?_) F (0 : Int32) m1793 gg h
      exact ih (a1797 + (1 : Int32)) m1839 g2703 h
theorem mm_join_l140_fr {F : Nat} {a1843 : Int32} {a1844 : Int32} {k : xm_S → Option (Int32 × xm_S)} {r : Int32} {m0 m' : xm_S} 
    (hk : ∀ (m : xm_S), xf_r fl_mm_join m0 m → k m = some (r, m') → xf_r fl_mm_join m0 m') : ∀ (fu : Nat) (a1845 : Int32) (m1842 : xm_S), xf_r fl_mm_join m0 m1842 → mm_join_l140 F a1843 a1844 k fu a1845 m1842 = some (r, m') → xf_r fl_mm_join m0 m' := by
  intro fu
  induction fu with
  | zero => intro a1845 m1842 gg h; cases h
  | succ fu ih =>
    intro a1845 m1842 gg h
    rw [mm_join_l140] at h
    by_cases c1846 : (m1842.1 35 9) ≤ a1845
    · replace h := (if_pos c1846).symm.trans h
      exact hk m1842 gg h
    · replace h := (if_neg c1846).symm.trans h
      obtain ⟨-, h⟩ := xg_e h
      obtain ⟨-, h⟩ := xg_e h
      obtain ⟨m1849, e1850, h⟩ := xs_e h
      have g2704 : xf_r fl_mm_join m0 m1849 := xf_t gg (by rw [e1850]; exact xf_l rfl)
      clear e1850
      exact ih (a1845 + (1 : Int32)) m1849 g2704 h
theorem mm_join_l14_fr {F : Nat} {a1785 : Int32} {k : xm_S → Option (Int32 × xm_S)} {r : Int32} {m0 m' : xm_S} 
    (hk : ∀ (m : xm_S), xf_r fl_mm_join m0 m → k m = some (r, m') → xf_r fl_mm_join m0 m') : ∀ (fu : Nat) (a1786 : Int32) (m1784 : xm_S), xf_r fl_mm_join m0 m1784 → mm_join_l14 F a1785 k fu a1786 m1784 = some (r, m') → xf_r fl_mm_join m0 m' := by
  intro fu
  induction fu with
  | zero => intro a1786 m1784 gg h; cases h
  | succ fu ih =>
    intro a1786 m1784 gg h
    rw [mm_join_l14] at h
    by_cases c1787 : (m1784.1 35 0) ≤ a1786
    · replace h := (if_pos c1787).symm.trans h
      exact hk m1784 gg h
    · replace h := (if_neg c1787).symm.trans h
      by_cases c1788 : ((a1785 >>> (a1786 &&& 31)) &&& (1 : Int32)) = (1 : Int32)
      · replace h := (if_pos c1788).symm.trans h
        obtain ⟨-, h⟩ := xg_e h
        by_cases c1790 : (m1784.1 42 a1786.toNatClampNeg) ≤ (60 : Int32)
        · replace h := (if_pos c1790).symm.trans h
          obtain ⟨m1791, e1792, h⟩ := xs_e h
          have g2705 : xf_r fl_mm_join m0 m1791 := xf_t gg (by rw [e1792]; exact xf_i rfl)
          clear e1792
          refine mm_join_l57_fr (fun m1840 g2706 h => ?_) F (0 : Int32) m1791 g2705 h
          by_cases c1841 : (m1840.1 35 9) ≤ (60 : Int32)
          · replace h := (if_pos c1841).symm.trans h
            refine mm_join_l140_fr (fun m1851 g2707 h => ?_) F (0 : Int32) m1840 g2706 h
            exact ih (a1786 + (1 : Int32)) m1851 g2707 h
          · replace h := (if_neg c1841).symm.trans h
            obtain ⟨rfl, rfl⟩ := Prod.mk.inj (Option.some.inj h)
            exact g2706
        · replace h := (if_neg c1790).symm.trans h
          obtain ⟨rfl, rfl⟩ := Prod.mk.inj (Option.some.inj h)
          exact gg
      · replace h := (if_neg c1788).symm.trans h
        exact ih (a1786 + (1 : Int32)) m1784 gg h
theorem mm_join_fr {F : Nat} {a1 : Int32} {r : Int32} {m0 m' : xm_S} (h : mm_join F a1 m0 = some (r, m')) : xf_r fl_mm_join m0 m' := by
  unfold mm_join at h
  have gg : xf_r fl_mm_join m0 m0 := xf_0
  obtain ⟨m1779, e1780, h⟩ := xs_e h
  have g2708 : xf_r fl_mm_join m0 m1779 := xf_t gg (by rw [e1780]; exact xf_i rfl)
  clear e1780
  obtain ⟨-, h⟩ := xg_e h
  obtain ⟨m1782, e1783, h⟩ := xs_e h
  have g2709 : xf_r fl_mm_join m0 m1782 := xf_t g2708 (by rw [e1783]; exact xf_l rfl)
  clear e1783
  refine mm_join_l14_fr (fun m1852 g2710 h => ?_) F (0 : Int32) m1782 g2709 h
  obtain ⟨rfl, rfl⟩ := Prod.mk.inj (Option.some.inj h)
  exact g2710
def fl_mm_goFrom : List Nat := [35, 45, 46, 47, 48]
theorem mm_goFrom_l76_fr {F : Nat} {a1874 : Int32} {a1875 : Int32} {a1876 : Int32} {a1877 : Int32} {a1878 : Int64} {k : Int32 → xm_S → Option (xm_S)} {m0 m' : xm_S} 
    (hk : ∀ (z8 : Int32) (m : xm_S), xf_r fl_mm_goFrom m0 m → k z8 m = some m' → xf_r fl_mm_goFrom m0 m') : ∀ (fu : Nat) (a1879 : Int32) (m1873 : xm_S), xf_r fl_mm_goFrom m0 m1873 → mm_goFrom_l76 F a1874 a1875 a1876 a1877 a1878 k fu a1879 m1873 = some m' → xf_r fl_mm_goFrom m0 m' := by
  intro fu
  induction fu with
  | zero => intro a1879 m1873 gg h; cases h
  | succ fu ih =>
    intro a1879 m1873 gg h
    rw [mm_goFrom_l76] at h
    by_cases c1880 : (m1873.1 35 17) ≤ a1879
    · replace h := (if_pos c1880).symm.trans h
      exact hk a1879 m1873 gg h
    · replace h := (if_neg c1880).symm.trans h
      obtain ⟨-, h⟩ := xg_e h
      by_cases c1882 : (lg_cmp ((a1878 >>> ((m1873.1 49 a1879.toNatClampNeg).toInt64 &&& 63)) &&& (1 : Int64)) (0 : Int64)) = 0
      · replace h := (if_pos c1882).symm.trans h
        exact ih (a1879 + (1 : Int32)) m1873 gg h
      · replace h := (if_neg c1882).symm.trans h
        exact hk a1879 m1873 gg h
theorem mm_goFrom_l24_fr {F : Nat} {a1865 : Int32} {a1866 : Int32} {k : xm_S → Option (xm_S)} {m0 m' : xm_S} 
    (hk : ∀ (m : xm_S), xf_r fl_mm_goFrom m0 m → k m = some m' → xf_r fl_mm_goFrom m0 m') : ∀ (fu : Nat) (a1867 : Int32) (m1864 : xm_S), xf_r fl_mm_goFrom m0 m1864 → mm_goFrom_l24 F a1865 a1866 k fu a1867 m1864 = some m' → xf_r fl_mm_goFrom m0 m' := by
  intro fu
  induction fu with
  | zero => intro a1867 m1864 gg h; cases h
  | succ fu ih =>
    intro a1867 m1864 gg h
    rw [mm_goFrom_l24] at h
    by_cases c1868 : (m1864.1 35 9) ≤ a1867
    · replace h := (if_pos c1868).symm.trans h
      exact hk m1864 gg h
    · replace h := (if_neg c1868).symm.trans h
      by_cases c1869 : (16 : Int32) < (m1864.1 35 11)
      · replace h := (if_pos c1869).symm.trans h
        exact hk m1864 gg h
      · replace h := (if_neg c1869).symm.trans h
        obtain ⟨-, h⟩ := xg_e h
        obtain ⟨-, h⟩ := xg_e h
        obtain ⟨-, h⟩ := xg_e h
        refine mm_goFrom_l76_fr (fun x1883 m1884 g2711 h => ?_) F (m1864.1 46 a1865.toNatClampNeg) m1864 gg h
        obtain ⟨v1887, m1888, e1889, h⟩ := xc_m_e h
        have g2712 : xf_r fl_mm_goFrom m0 m1888 := xf_t g2711 (xf_s rfl (mm_stateOf_fr e1889))
        obtain ⟨-, h⟩ := xg_e h
        obtain ⟨-, h⟩ := xg_e h
        obtain ⟨m1893, e1894, h⟩ := xs_e h
        have g2713 : xf_r fl_mm_goFrom m0 m1893 := xf_t g2712 (by rw [e1894]; exact xf_i rfl)
        clear e1894
        obtain ⟨j1900, e1901, h⟩ := xj_e h
        have q1902 : ∀ (x1899 : Int32), j1900 x1899 = some m' → xf_r fl_mm_goFrom m0 m' := by
          intro x1899 h
          rw [e1901] at h
          obtain ⟨-, h⟩ := xg_e h
          obtain ⟨m1904, e1905, h⟩ := xs_e h
          have g2714 : xf_r fl_mm_goFrom m0 m1904 := xf_t g2713 (by rw [e1905]; exact xf_i rfl)
          clear e1905
          exact ih (a1867 + (1 : Int32)) m1904 g2714 h
        clear e1901
        by_cases c1906 : (if x1883 < (m1884.1 35 17) then (0 : Int32) else (1 : Int32)) = 0
        · replace h := (if_pos c1906).symm.trans h
          obtain ⟨-, h⟩ := xg_e h
          exact q1902 (m1893.1 48 a1866.toNatClampNeg) h
        · replace h := (if_neg c1906).symm.trans h
          obtain ⟨-, h⟩ := xg_e h
          exact q1902 ((m1893.1 48 a1866.toNatClampNeg) ||| ((1 : Int32) <<< (v1887 &&& 31))) h
theorem mm_goFrom_fr {F : Nat} {a1 : Int32} {a2 : Int32} {m0 m' : xm_S} (h : mm_goFrom F a1 a2 m0 = some m') : xf_r fl_mm_goFrom m0 m' := by
  unfold mm_goFrom at h
  have gg : xf_r fl_mm_goFrom m0 m0 := xf_0
  obtain ⟨-, h⟩ := xg_e h
  obtain ⟨m1859, e1860, h⟩ := xs_e h
  have g2715 : xf_r fl_mm_goFrom m0 m1859 := xf_t gg (by rw [e1860]; exact xf_i rfl)
  clear e1860
  obtain ⟨-, h⟩ := xg_e h
  obtain ⟨m1862, e1863, h⟩ := xs_e h
  have g2716 : xf_r fl_mm_goFrom m0 m1862 := xf_t g2715 (by rw [e1863]; exact xf_i rfl)
  clear e1863
  refine mm_goFrom_l24_fr (fun m1911 g2717 h => ?_) F (0 : Int32) m1862 g2716 h
  obtain rfl := Option.some.inj h
  exact g2717
def fl_mm_automaton : List Nat := [35, 41, 42, 43, 44, 45, 46, 47, 48, 49]
theorem mm_automaton_l2_fr {F : Nat} {a1689 : Int32} {k : xm_S → Option (Int32 × xm_S)} {r : Int32} {m0 m' : xm_S} 
    (hk : ∀ (m : xm_S), xf_r fl_mm_automaton m0 m → k m = some (r, m') → xf_r fl_mm_automaton m0 m') : ∀ (fu : Nat) (a1690 : Int32) (m1688 : xm_S), xf_r fl_mm_automaton m0 m1688 → mm_automaton_l2 F a1689 k fu a1690 m1688 = some (r, m') → xf_r fl_mm_automaton m0 m' := by
  intro fu
  induction fu with
  | zero => intro a1690 m1688 gg h; cases h
  | succ fu ih =>
    intro a1690 m1688 gg h
    rw [mm_automaton_l2] at h
    by_cases c1691 : (16 : Int32) ≤ a1690
    · replace h := (if_pos c1691).symm.trans h
      exact hk m1688 gg h
    · replace h := (if_neg c1691).symm.trans h
      obtain ⟨m1693, e1694, h⟩ := xc_v_e h
      have g2718 : xf_r fl_mm_automaton m0 m1693 := xf_t gg (xf_s rfl (mm_waysUpTo_fr e1694))
      obtain ⟨-, h⟩ := xg_e h
      by_cases c1697 : (m1693.1 42 a1689.toNatClampNeg) ≤ (60 : Int32)
      · replace h := (if_pos c1697).symm.trans h
        exact ih (a1690 + (1 : Int32)) m1693 g2718 h
      · replace h := (if_neg c1697).symm.trans h
        obtain ⟨rfl, rfl⟩ := Prod.mk.inj (Option.some.inj h)
        exact g2718
theorem mm_automaton_l65_fr {F : Nat} {a1771 : Int32} {k : xm_S → Option (Int32 × xm_S)} {r : Int32} {m0 m' : xm_S} 
    (hk : ∀ (m : xm_S), xf_r fl_mm_automaton m0 m → k m = some (r, m') → xf_r fl_mm_automaton m0 m') : ∀ (fu : Nat) (a1772 : Int32) (m1770 : xm_S), xf_r fl_mm_automaton m0 m1770 → mm_automaton_l65 F a1771 k fu a1772 m1770 = some (r, m') → xf_r fl_mm_automaton m0 m' := by
  intro fu
  induction fu with
  | zero => intro a1772 m1770 gg h; cases h
  | succ fu ih =>
    intro a1772 m1770 gg h
    rw [mm_automaton_l65] at h
    by_cases c1773 : (16 : Int32) ≤ a1772
    · replace h := (if_pos c1773).symm.trans h
      exact hk m1770 gg h
    · replace h := (if_neg c1773).symm.trans h
      obtain ⟨m1775, e1776, h⟩ := xc_v_e h
      have g2719 : xf_r fl_mm_automaton m0 m1775 := xf_t gg (xf_s rfl (mm_waysUpTo_fr e1776))
      obtain ⟨-, h⟩ := xg_e h
      obtain ⟨v1853, m1854, e1855, h⟩ := xc_m_e h
      have g2720 : xf_r fl_mm_automaton m0 m1854 := xf_t g2719 (xf_s rfl (mm_join_fr e1855))
      by_cases c1857 : v1853 = 0
      · replace h := (if_pos c1857).symm.trans h
        obtain ⟨rfl, rfl⟩ := Prod.mk.inj (Option.some.inj h)
        exact g2720
      · replace h := (if_neg c1857).symm.trans h
        obtain ⟨m1913, e1914, h⟩ := xc_v_e h
        have g2721 : xf_r fl_mm_automaton m0 m1913 := xf_t g2720 (xf_s rfl (mm_goFrom_fr e1914))
        by_cases c1916 : (m1913.1 35 11) ≤ (16 : Int32)
        · replace h := (if_pos c1916).symm.trans h
          exact ih (a1772 + (1 : Int32)) m1913 g2721 h
        · replace h := (if_neg c1916).symm.trans h
          obtain ⟨rfl, rfl⟩ := Prod.mk.inj (Option.some.inj h)
          exact g2721
theorem mm_automaton_l54_fr {F : Nat} {k : xm_S → Option (Int32 × xm_S)} {r : Int32} {m0 m' : xm_S} 
    (hk : ∀ (m : xm_S), xf_r fl_mm_automaton m0 m → k m = some (r, m') → xf_r fl_mm_automaton m0 m') : ∀ (fu : Nat) (a1768 : Int32) (m1767 : xm_S), xf_r fl_mm_automaton m0 m1767 → mm_automaton_l54 F k fu a1768 m1767 = some (r, m') → xf_r fl_mm_automaton m0 m' := by
  intro fu
  induction fu with
  | zero => intro a1768 m1767 gg h; cases h
  | succ fu ih =>
    intro a1768 m1767 gg h
    rw [mm_automaton_l54] at h
    by_cases c1769 : (m1767.1 35 11) ≤ a1768
    · replace h := (if_pos c1769).symm.trans h
      exact hk m1767 gg h
    · replace h := (if_neg c1769).symm.trans h
      refine mm_automaton_l65_fr (fun m1917 g2722 h => ?_) F (0 : Int32) m1767 gg h
      exact ih (a1768 + (1 : Int32)) m1917 g2722 h
theorem mm_automaton_fr {F : Nat} {a1 : Int32} {r : Int32} {m0 m' : xm_S} (h : mm_automaton F a1 m0 = some (r, m')) : xf_r fl_mm_automaton m0 m' := by
  unfold mm_automaton at h
  have gg : xf_r fl_mm_automaton m0 m0 := xf_0
  refine mm_automaton_l2_fr (fun m1698 g2723 h => ?_) F (0 : Int32) m0 gg h
  obtain ⟨m1740, e1741, h⟩ := xc_v_e h
  have g2724 : xf_r fl_mm_automaton m0 m1740 := xf_t g2723 (xf_s rfl (mm_findUntils_fr e1741))
  obtain ⟨m1743, e1744, h⟩ := xs_e h
  have g2725 : xf_r fl_mm_automaton m0 m1743 := xf_t g2724 (by rw [e1744]; exact xf_i rfl)
  clear e1744
  obtain ⟨v1763, m1764, e1765, h⟩ := xc_m_e h
  have g2726 : xf_r fl_mm_automaton m0 m1764 := xf_t g2725 (xf_s rfl (mm_stateOf_fr e1765))
  refine mm_automaton_l54_fr (fun m1918 g2727 h => ?_) F v1763 m1764 g2726 h
  obtain ⟨rfl, rfl⟩ := Prod.mk.inj (Option.some.inj h)
  exact g2727
def fl_mm_states : List Nat := [35, 41, 42, 43, 44, 45, 46, 47, 48, 49]
theorem mm_states_fr {F : Nat} {a1 : Int32} {r : Int32} {m0 m' : xm_S} (h : mm_states F a1 m0 = some (r, m')) : xf_r fl_mm_states m0 m' := by
  unfold mm_states at h
  have gg : xf_r fl_mm_states m0 m0 := xf_0
  by_cases c1919 : (mm_isFormula a1 m0) = 0
  · replace h := (if_pos c1919).symm.trans h
    obtain ⟨rfl, rfl⟩ := Prod.mk.inj (Option.some.inj h)
    exact gg
  · replace h := (if_neg c1919).symm.trans h
    obtain ⟨v1920, m1921, e1922, h⟩ := xc_m_e h
    have g2728 : xf_r fl_mm_states m0 m1921 := xf_t gg (xf_s rfl (mm_automaton_fr e1922))
    by_cases c1924 : v1920 = 0
    · replace h := (if_pos c1924).symm.trans h
      obtain ⟨rfl, rfl⟩ := Prod.mk.inj (Option.some.inj h)
      exact g2728
    · replace h := (if_neg c1924).symm.trans h
      obtain ⟨rfl, rfl⟩ := Prod.mk.inj (Option.some.inj h)
      exact g2728
def fl_mm_positionOf : List Nat := [35, 50]
theorem mm_positionOf_l2_fr {F : Nat} {a1952 : Int64} {k : xm_S → Option (Int32 × xm_S)} {r : Int32} {m0 m' : xm_S} 
    (hk : ∀ (m : xm_S), xf_r fl_mm_positionOf m0 m → k m = some (r, m') → xf_r fl_mm_positionOf m0 m') : ∀ (fu : Nat) (a1953 : Int32) (m1951 : xm_S), xf_r fl_mm_positionOf m0 m1951 → mm_positionOf_l2 F a1952 k fu a1953 m1951 = some (r, m') → xf_r fl_mm_positionOf m0 m' := by
  intro fu
  induction fu with
  | zero => intro a1953 m1951 gg h; cases h
  | succ fu ih =>
    intro a1953 m1951 gg h
    rw [mm_positionOf_l2] at h
    by_cases c1954 : (m1951.1 35 18) ≤ a1953
    · replace h := (if_pos c1954).symm.trans h
      exact hk m1951 gg h
    · replace h := (if_neg c1954).symm.trans h
      obtain ⟨-, h⟩ := xg_e h
      by_cases c1956 : (lg_cmp (m1951.2 50 a1953.toNatClampNeg) a1952) = 0
      · replace h := (if_pos c1956).symm.trans h
        obtain ⟨rfl, rfl⟩ := Prod.mk.inj (Option.some.inj h)
        exact gg
      · replace h := (if_neg c1956).symm.trans h
        exact ih (a1953 + (1 : Int32)) m1951 gg h
theorem mm_positionOf_fr {F : Nat} {a1 : Int64} {r : Int32} {m0 m' : xm_S} (h : mm_positionOf F a1 m0 = some (r, m')) : xf_r fl_mm_positionOf m0 m' := by
  unfold mm_positionOf at h
  have gg : xf_r fl_mm_positionOf m0 m0 := xf_0
  refine mm_positionOf_l2_fr (fun m1957 g2729 h => ?_) F (0 : Int32) m0 gg h
  obtain ⟨-, h⟩ := xg_e h
  obtain ⟨m1959, e1960, h⟩ := xs_e h
  have g2730 : xf_r fl_mm_positionOf m0 m1959 := xf_t g2729 (by rw [e1960]; exact xf_l rfl)
  clear e1960
  obtain ⟨m1961, e1962, h⟩ := xs_e h
  have g2731 : xf_r fl_mm_positionOf m0 m1961 := xf_t g2730 (by rw [e1962]; exact xf_i rfl)
  clear e1962
  obtain ⟨rfl, rfl⟩ := Prod.mk.inj (Option.some.inj h)
  exact g2731
def fl_mm_after : List Nat := []
theorem mm_after_l21_fr {F : Nat} {a1985 : Int64} {a1986 : Int32} {a1987 : Int32} {a1988 : Int64} {a1989 : Int32} {k : Int32 → xm_S → Option (Int64 × xm_S)} {r : Int64} {m0 m' : xm_S} 
    (hk : ∀ (z8 : Int32) (m : xm_S), xf_r fl_mm_after m0 m → k z8 m = some (r, m') → xf_r fl_mm_after m0 m') : ∀ (fu : Nat) (a1990 : Int32) (a1991 : Int32) (m1984 : xm_S), xf_r fl_mm_after m0 m1984 → mm_after_l21 F a1985 a1986 a1987 a1988 a1989 k fu a1990 a1991 m1984 = some (r, m') → xf_r fl_mm_after m0 m' := by
  intro fu
  induction fu with
  | zero => intro a1990 a1991 m1984 gg h; cases h
  | succ fu ih =>
    intro a1990 a1991 m1984 gg h
    rw [mm_after_l21] at h
    by_cases c1992 : (m1984.1 35 11) ≤ a1991
    · replace h := (if_pos c1992).symm.trans h
      exact hk a1990 m1984 gg h
    · replace h := (if_neg c1992).symm.trans h
      obtain ⟨j1997, e1998, h⟩ := xj_e h
      have q1999 : ∀ (x1996 : Int32), j1997 x1996 = some (r, m') → xf_r fl_mm_after m0 m' := by
        intro x1996 h
        rw [e1998] at h
        obtain ⟨j2004, e2005, h⟩ := xj_e h
        have q2006 : ∀ (x2003 : Int32), j2004 x2003 = some (r, m') → xf_r fl_mm_after m0 m' := by
          intro x2003 h
          rw [e2005] at h
          by_cases c2007 : x2003 ≤ a1990
          · replace h := (if_pos c2007).symm.trans h
            exact ih a1990 (a1991 + (1 : Int32)) m1984 gg h
          · replace h := (if_neg c2007).symm.trans h
            exact ih x2003 (a1991 + (1 : Int32)) m1984 gg h
        clear e2005
        by_cases c2008 : x1996 = 0
        · replace h := (if_pos c2008).symm.trans h
          exact q2006 (-1 : Int32) h
        · replace h := (if_neg c2008).symm.trans h
          obtain ⟨-, h⟩ := xg_e h
          exact q2006 ((mm_counter a1985 a1991) + (((m1984.1 48 (((16 : Int32) * a1991) + a1986).toNatClampNeg) >>> (a1989 &&& 31)) &&& (1 : Int32))) h
      clear e1998
      obtain ⟨j2014, e2015, h⟩ := xj_e h
      have q2016 : ∀ (u2013 : Unit), j2014 u2013 = some (r, m') → xf_r fl_mm_after m0 m' := by
        intro u2013 h
        rw [e2015] at h
        exact q1999 (0 : Int32) h
      clear e2015
      by_cases c2017 : (mm_counter a1985 a1991) < 0
      · replace h := (if_pos c2017).symm.trans h
        exact q2016 () h
      · replace h := (if_neg c2017).symm.trans h
        obtain ⟨-, h⟩ := xg_e h
        by_cases c2019 : (((m1984.1 47 (((16 : Int32) * a1991) + a1986).toNatClampNeg) >>> (a1989 &&& 31)) &&& (1 : Int32)) = (1 : Int32)
        · replace h := (if_pos c2019).symm.trans h
          exact q1999 (1 : Int32) h
        · replace h := (if_neg c2019).symm.trans h
          exact q2016 () h
theorem mm_after_l6_fr {F : Nat} {a1978 : Int64} {a1979 : Int32} {a1980 : Int32} {k : Int64 → xm_S → Option (Int64 × xm_S)} {r : Int64} {m0 m' : xm_S} 
    (hk : ∀ (z5 : Int64) (m : xm_S), xf_r fl_mm_after m0 m → k z5 m = some (r, m') → xf_r fl_mm_after m0 m') : ∀ (fu : Nat) (a1981 : Int64) (a1982 : Int32) (m1977 : xm_S), xf_r fl_mm_after m0 m1977 → mm_after_l6 F a1978 a1979 a1980 k fu a1981 a1982 m1977 = some (r, m') → xf_r fl_mm_after m0 m' := by
  intro fu
  induction fu with
  | zero => intro a1981 a1982 m1977 gg h; cases h
  | succ fu ih =>
    intro a1981 a1982 m1977 gg h
    rw [mm_after_l6] at h
    by_cases c1983 : (m1977.1 35 11) ≤ a1982
    · replace h := (if_pos c1983).symm.trans h
      exact hk a1981 m1977 gg h
    · replace h := (if_neg c1983).symm.trans h
      refine mm_after_l21_fr (fun x2020 m2021 g2732 h => ?_) F (-1 : Int32) (0 : Int32) m1977 gg h
      by_cases c2022 : x2020 ≤ a1980
      · replace h := (if_pos c2022).symm.trans h
        exact ih (a1981 ||| (((x2020 + (1 : Int32)).toInt64) <<< (((3 : Int32) * a1982).toInt64 &&& 63))) (a1982 + (1 : Int32)) m2021 g2732 h
      · replace h := (if_neg c2022).symm.trans h
        obtain ⟨rfl, rfl⟩ := Prod.mk.inj (Option.some.inj h)
        exact g2732
theorem mm_after_fr {F : Nat} {a1 : Int64} {a2 : Int32} {a3 : Int32} {r : Int64} {m0 m' : xm_S} (h : mm_after F a1 a2 a3 m0 = some (r, m')) : xf_r fl_mm_after m0 m' := by
  unfold mm_after at h
  have gg : xf_r fl_mm_after m0 m0 := xf_0
  refine mm_after_l6_fr (fun x2023 m2024 g2733 h => ?_) F (0 : Int64) (0 : Int32) m0 gg h
  obtain ⟨rfl, rfl⟩ := Prod.mk.inj (Option.some.inj h)
  exact g2733
def fl_mm_game : List Nat := [35, 50, 51]
theorem mm_game_l24_fr {F : Nat} {a1972 : Int32} {a1973 : Int32} {k : xm_S → Option (Int32 × xm_S)} {r : Int32} {m0 m' : xm_S} 
    (hk : ∀ (m : xm_S), xf_r fl_mm_game m0 m → k m = some (r, m') → xf_r fl_mm_game m0 m') : ∀ (fu : Nat) (a1974 : Int32) (m1971 : xm_S), xf_r fl_mm_game m0 m1971 → mm_game_l24 F a1972 a1973 k fu a1974 m1971 = some (r, m') → xf_r fl_mm_game m0 m' := by
  intro fu
  induction fu with
  | zero => intro a1974 m1971 gg h; cases h
  | succ fu ih =>
    intro a1974 m1971 gg h
    rw [mm_game_l24] at h
    by_cases c1975 : (16 : Int32) ≤ a1974
    · replace h := (if_pos c1975).symm.trans h
      exact hk m1971 gg h
    · replace h := (if_neg c1975).symm.trans h
      obtain ⟨-, h⟩ := xg_e h
      obtain ⟨v2025, m2026, e2027, h⟩ := xc_m_e h
      have g2734 : xf_r fl_mm_game m0 m2026 := xf_t gg (xf_s rfl (mm_after_fr e2027))
      obtain ⟨j2037, e2038, h⟩ := xj_e h
      have q2039 : ∀ (x2035 : Int32) (m2036 : xm_S), xf_r fl_mm_game m0 m2036 → j2037 x2035 m2036 = some (r, m') → xf_r fl_mm_game m0 m' := by
        intro x2035 m2036 g2735 h
        rw [e2038] at h
        obtain ⟨-, h⟩ := xg_e h
        obtain ⟨m2041, e2042, h⟩ := xs_e h
        have g2736 : xf_r fl_mm_game m0 m2041 := xf_t g2735 (by rw [e2042]; exact xf_i rfl)
        clear e2042
        by_cases c2043 : (m2041.1 35 18) ≤ (100 : Int32)
        · replace h := (if_pos c2043).symm.trans h
          exact ih (a1974 + (1 : Int32)) m2041 g2736 h
        · replace h := (if_neg c2043).symm.trans h
          obtain ⟨rfl, rfl⟩ := Prod.mk.inj (Option.some.inj h)
          exact g2736
      clear e2038
      by_cases c2044 : 0 ≤ (lg_cmp v2025 (0 : Int64))
      · replace h := (if_pos c2044).symm.trans h
        obtain ⟨v2045, m2046, e2047, h⟩ := xc_m_e h
        have g2737 : xf_r fl_mm_game m0 m2046 := xf_t g2734 (xf_s rfl (mm_positionOf_fr e2047))
        exact q2039 v2045 m2046 g2737 h
      · replace h := (if_neg c2044).symm.trans h
        exact q2039 (-1 : Int32) m2026 g2734 h
theorem mm_game_l13_fr {F : Nat} {a1968 : Int32} {k : xm_S → Option (Int32 × xm_S)} {r : Int32} {m0 m' : xm_S} 
    (hk : ∀ (m : xm_S), xf_r fl_mm_game m0 m → k m = some (r, m') → xf_r fl_mm_game m0 m') : ∀ (fu : Nat) (a1969 : Int32) (m1967 : xm_S), xf_r fl_mm_game m0 m1967 → mm_game_l13 F a1968 k fu a1969 m1967 = some (r, m') → xf_r fl_mm_game m0 m' := by
  intro fu
  induction fu with
  | zero => intro a1969 m1967 gg h; cases h
  | succ fu ih =>
    intro a1969 m1967 gg h
    rw [mm_game_l13] at h
    by_cases c1970 : (m1967.1 35 18) ≤ a1969
    · replace h := (if_pos c1970).symm.trans h
      exact hk m1967 gg h
    · replace h := (if_neg c1970).symm.trans h
      refine mm_game_l24_fr (fun m2049 g2738 h => ?_) F (0 : Int32) m1967 gg h
      exact ih (a1969 + (1 : Int32)) m2049 g2738 h
theorem mm_game_fr {F : Nat} {a1 : Int32} {r : Int32} {m0 m' : xm_S} (h : mm_game F a1 m0 = some (r, m')) : xf_r fl_mm_game m0 m' := by
  unfold mm_game at h
  have gg : xf_r fl_mm_game m0 m0 := xf_0
  obtain ⟨m1949, e1950, h⟩ := xs_e h
  have g2739 : xf_r fl_mm_game m0 m1949 := xf_t gg (by rw [e1950]; exact xf_i rfl)
  clear e1950
  obtain ⟨v1963, m1964, e1965, h⟩ := xc_m_e h
  have g2740 : xf_r fl_mm_game m0 m1964 := xf_t g2739 (xf_s rfl (mm_positionOf_fr e1965))
  refine mm_game_l13_fr (fun m2050 g2741 h => ?_) F v1963 m1964 g2740 h
  obtain ⟨rfl, rfl⟩ := Prod.mk.inj (Option.some.inj h)
  exact g2741
def fl_mm_isSafe : List Nat := []
theorem mm_isSafe_fr {F : Nat} {a1 : Int32} {r : Int32} {m0 m' : xm_S} (h : mm_isSafe F a1 m0 = some (r, m')) : xf_r fl_mm_isSafe m0 m' := by
  unfold mm_isSafe at h
  have gg : xf_r fl_mm_isSafe m0 m0 := xf_0
  by_cases c2090 : a1 < 0
  · replace h := (if_pos c2090).symm.trans h
    obtain ⟨rfl, rfl⟩ := Prod.mk.inj (Option.some.inj h)
    exact gg
  · replace h := (if_neg c2090).symm.trans h
    obtain ⟨-, h⟩ := xg_e h
    by_cases c2092 : (m0.1 52 a1.toNatClampNeg) = 0
    · replace h := (if_pos c2092).symm.trans h
      obtain ⟨rfl, rfl⟩ := Prod.mk.inj (Option.some.inj h)
      exact gg
    · replace h := (if_neg c2092).symm.trans h
      obtain ⟨rfl, rfl⟩ := Prod.mk.inj (Option.some.inj h)
      exact gg
def fl_mm_output : List Nat := []
theorem mm_output_l5_fr {F : Nat} {a2083 : Int32} {a2084 : Int32} {k : Int32 → xm_S → Option (Int32 × xm_S)} {r : Int32} {m0 m' : xm_S} 
    (hk : ∀ (z3 : Int32) (m : xm_S), xf_r fl_mm_output m0 m → k z3 m = some (r, m') → xf_r fl_mm_output m0 m') : ∀ (fu : Nat) (a2085 : Int32) (a2086 : Int32) (m2082 : xm_S), xf_r fl_mm_output m0 m2082 → mm_output_l5 F a2083 a2084 k fu a2085 a2086 m2082 = some (r, m') → xf_r fl_mm_output m0 m' := by
  intro fu
  induction fu with
  | zero => intro a2085 a2086 m2082 gg h; cases h
  | succ fu ih =>
    intro a2085 a2086 m2082 gg h
    rw [mm_output_l5] at h
    by_cases c2087 : a2086 < 0
    · replace h := (if_pos c2087).symm.trans h
      exact hk a2085 m2082 gg h
    · replace h := (if_neg c2087).symm.trans h
      obtain ⟨-, h⟩ := xg_e h
      obtain ⟨v2093, m2094, e2095, h⟩ := xc_m_e h
      have g2742 : xf_r fl_mm_output m0 m2094 := xf_t gg (xf_s rfl (mm_isSafe_fr e2095))
      by_cases c2097 : v2093 = 0
      · replace h := (if_pos c2097).symm.trans h
        exact ih a2085 (a2086 + (-1 : Int32)) m2094 g2742 h
      · replace h := (if_neg c2097).symm.trans h
        exact ih a2086 (a2086 + (-1 : Int32)) m2094 g2742 h
theorem mm_output_fr {F : Nat} {a1 : Int32} {a2 : Int32} {r : Int32} {m0 m' : xm_S} (h : mm_output F a1 a2 m0 = some (r, m')) : xf_r fl_mm_output m0 m' := by
  unfold mm_output at h
  have gg : xf_r fl_mm_output m0 m0 := xf_0
  refine mm_output_l5_fr (fun x2098 m2099 g2743 h => ?_) F (-1 : Int32) (3 : Int32) m0 gg h
  obtain ⟨rfl, rfl⟩ := Prod.mk.inj (Option.some.inj h)
  exact g2743
def fl_mm_input : List Nat := []
theorem mm_input_l14_fr {F : Nat} {a2114 : Int32} {a2115 : Int32} {a2116 : Int32} {k : Int32 → xm_S → Option (Int32 × xm_S)} {r : Int32} {m0 m' : xm_S} 
    (hk : ∀ (z4 : Int32) (m : xm_S), xf_r fl_mm_input m0 m → k z4 m = some (r, m') → xf_r fl_mm_input m0 m') : ∀ (fu : Nat) (a2117 : Int32) (a2118 : Int32) (m2113 : xm_S), xf_r fl_mm_input m0 m2113 → mm_input_l14 F a2114 a2115 a2116 k fu a2117 a2118 m2113 = some (r, m') → xf_r fl_mm_input m0 m' := by
  intro fu
  induction fu with
  | zero => intro a2117 a2118 m2113 gg h; cases h
  | succ fu ih =>
    intro a2117 a2118 m2113 gg h
    rw [mm_input_l14] at h
    by_cases c2119 : (4 : Int32) ≤ a2118
    · replace h := (if_pos c2119).symm.trans h
      exact hk a2117 m2113 gg h
    · replace h := (if_neg c2119).symm.trans h
      by_cases c2120 : a2117 = 0
      · replace h := (if_pos c2120).symm.trans h
        exact ih (0 : Int32) (a2118 + (1 : Int32)) m2113 gg h
      · replace h := (if_neg c2120).symm.trans h
        obtain ⟨-, h⟩ := xg_e h
        obtain ⟨v2122, m2123, e2124, h⟩ := xc_m_e h
        have g2744 : xf_r fl_mm_input m0 m2123 := xf_t gg (xf_s rfl (mm_isSafe_fr e2124))
        by_cases c2126 : v2122 = 0
        · replace h := (if_pos c2126).symm.trans h
          exact ih (0 : Int32) (a2118 + (1 : Int32)) m2123 g2744 h
        · replace h := (if_neg c2126).symm.trans h
          exact ih (1 : Int32) (a2118 + (1 : Int32)) m2123 g2744 h
theorem mm_input_l4_fr {F : Nat} {a2109 : Int32} {k : Int32 → xm_S → Option (Int32 × xm_S)} {r : Int32} {m0 m' : xm_S} 
    (hk : ∀ (z2 : Int32) (m : xm_S), xf_r fl_mm_input m0 m → k z2 m = some (r, m') → xf_r fl_mm_input m0 m') : ∀ (fu : Nat) (a2110 : Int32) (a2111 : Int32) (m2108 : xm_S), xf_r fl_mm_input m0 m2108 → mm_input_l4 F a2109 k fu a2110 a2111 m2108 = some (r, m') → xf_r fl_mm_input m0 m' := by
  intro fu
  induction fu with
  | zero => intro a2110 a2111 m2108 gg h; cases h
  | succ fu ih =>
    intro a2110 a2111 m2108 gg h
    rw [mm_input_l4] at h
    by_cases c2112 : a2111 < 0
    · replace h := (if_pos c2112).symm.trans h
      exact hk a2110 m2108 gg h
    · replace h := (if_neg c2112).symm.trans h
      refine mm_input_l14_fr (fun x2127 m2128 g2745 h => ?_) F (1 : Int32) (0 : Int32) m2108 gg h
      by_cases c2129 : x2127 = 0
      · replace h := (if_pos c2129).symm.trans h
        exact ih a2110 (a2111 + (-1 : Int32)) m2128 g2745 h
      · replace h := (if_neg c2129).symm.trans h
        exact ih a2111 (a2111 + (-1 : Int32)) m2128 g2745 h
theorem mm_input_fr {F : Nat} {a1 : Int32} {r : Int32} {m0 m' : xm_S} (h : mm_input F a1 m0 = some (r, m')) : xf_r fl_mm_input m0 m' := by
  unfold mm_input at h
  have gg : xf_r fl_mm_input m0 m0 := xf_0
  refine mm_input_l4_fr (fun x2130 m2131 g2746 h => ?_) F (-1 : Int32) (3 : Int32) m0 gg h
  obtain ⟨rfl, rfl⟩ := Prod.mk.inj (Option.some.inj h)
  exact g2746
def fl_mm_stays : List Nat := []
theorem mm_stays_l23_fr {F : Nat} {a2077 : Int32} {k : Int32 → xm_S → Option (Int32 × xm_S)} {r : Int32} {m0 m' : xm_S} 
    (hk : ∀ (z3 : Int32) (m : xm_S), xf_r fl_mm_stays m0 m → k z3 m = some (r, m') → xf_r fl_mm_stays m0 m') : ∀ (fu : Nat) (a2078 : Int32) (a2079 : Int32) (m2076 : xm_S), xf_r fl_mm_stays m0 m2076 → mm_stays_l23 F a2077 k fu a2078 a2079 m2076 = some (r, m') → xf_r fl_mm_stays m0 m' := by
  intro fu
  induction fu with
  | zero => intro a2078 a2079 m2076 gg h; cases h
  | succ fu ih =>
    intro a2078 a2079 m2076 gg h
    rw [mm_stays_l23] at h
    by_cases c2080 : (4 : Int32) ≤ a2079
    · replace h := (if_pos c2080).symm.trans h
      exact hk a2078 m2076 gg h
    · replace h := (if_neg c2080).symm.trans h
      by_cases c2081 : a2078 = 0
      · replace h := (if_pos c2081).symm.trans h
        exact ih (0 : Int32) (a2079 + (1 : Int32)) m2076 gg h
      · replace h := (if_neg c2081).symm.trans h
        obtain ⟨v2100, m2101, e2102, h⟩ := xc_m_e h
        have g2747 : xf_r fl_mm_stays m0 m2101 := xf_t gg (xf_s rfl (mm_output_fr e2102))
        by_cases c2104 : v2100 < 0
        · replace h := (if_pos c2104).symm.trans h
          exact ih (0 : Int32) (a2079 + (1 : Int32)) m2101 g2747 h
        · replace h := (if_neg c2104).symm.trans h
          exact ih (1 : Int32) (a2079 + (1 : Int32)) m2101 g2747 h
theorem mm_stays_fr {F : Nat} {a1 : Int32} {a2 : Int32} {r : Int32} {m0 m' : xm_S} (h : mm_stays F a1 a2 m0 = some (r, m')) : xf_r fl_mm_stays m0 m' := by
  unfold mm_stays at h
  have gg : xf_r fl_mm_stays m0 m0 := xf_0
  by_cases c2075 : a2 = 0
  · replace h := (if_pos c2075).symm.trans h
    obtain ⟨v2132, m2133, e2134, h⟩ := xc_m_e h
    have g2748 : xf_r fl_mm_stays m0 m2133 := xf_t gg (xf_s rfl (mm_input_fr e2134))
    by_cases c2136 : v2132 < 0
    · replace h := (if_pos c2136).symm.trans h
      obtain ⟨rfl, rfl⟩ := Prod.mk.inj (Option.some.inj h)
      exact g2748
    · replace h := (if_neg c2136).symm.trans h
      obtain ⟨rfl, rfl⟩ := Prod.mk.inj (Option.some.inj h)
      exact g2748
  · replace h := (if_neg c2075).symm.trans h
    refine mm_stays_l23_fr (fun x2105 m2106 g2749 h => ?_) F (1 : Int32) (0 : Int32) m0 gg h
    obtain ⟨-, h⟩ := xg_b_e h
    obtain ⟨rfl, rfl⟩ := Prod.mk.inj (Option.some.inj h)
    exact g2749
def fl_mm_findSafe : List Nat := [35, 52]
theorem mm_findSafe_l2_fr {F : Nat} {a2057 : Int32} {k : xm_S → Option (xm_S)} {m0 m' : xm_S} 
    (hk : ∀ (m : xm_S), xf_r fl_mm_findSafe m0 m → k m = some m' → xf_r fl_mm_findSafe m0 m') : ∀ (fu : Nat) (a2058 : Int32) (m2056 : xm_S), xf_r fl_mm_findSafe m0 m2056 → mm_findSafe_l2 F a2057 k fu a2058 m2056 = some m' → xf_r fl_mm_findSafe m0 m' := by
  intro fu
  induction fu with
  | zero => intro a2058 m2056 gg h; cases h
  | succ fu ih =>
    intro a2058 m2056 gg h
    rw [mm_findSafe_l2] at h
    by_cases c2059 : (m2056.1 35 18) ≤ a2058
    · replace h := (if_pos c2059).symm.trans h
      exact hk m2056 gg h
    · replace h := (if_neg c2059).symm.trans h
      obtain ⟨-, h⟩ := xg_e h
      obtain ⟨m2061, e2062, h⟩ := xs_e h
      have g2750 : xf_r fl_mm_findSafe m0 m2061 := xf_t gg (by rw [e2062]; exact xf_i rfl)
      clear e2062
      exact ih (a2058 + (1 : Int32)) m2061 g2750 h
theorem mm_findSafe_l33_fr {F : Nat} {a2069 : Int32} {k : Int32 → xm_S → Option (xm_S)} {m0 m' : xm_S} 
    (hk : ∀ (z2 : Int32) (m : xm_S), xf_r fl_mm_findSafe m0 m → k z2 m = some m' → xf_r fl_mm_findSafe m0 m') : ∀ (fu : Nat) (a2070 : Int32) (a2071 : Int32) (m2068 : xm_S), xf_r fl_mm_findSafe m0 m2068 → mm_findSafe_l33 F a2069 k fu a2070 a2071 m2068 = some m' → xf_r fl_mm_findSafe m0 m' := by
  intro fu
  induction fu with
  | zero => intro a2070 a2071 m2068 gg h; cases h
  | succ fu ih =>
    intro a2070 a2071 m2068 gg h
    rw [mm_findSafe_l33] at h
    by_cases c2072 : (m2068.1 35 18) ≤ a2071
    · replace h := (if_pos c2072).symm.trans h
      exact hk a2070 m2068 gg h
    · replace h := (if_neg c2072).symm.trans h
      obtain ⟨-, h⟩ := xg_e h
      by_cases c2074 : (m2068.1 52 a2071.toNatClampNeg) = 0
      · replace h := (if_pos c2074).symm.trans h
        exact ih a2070 (a2071 + (1 : Int32)) m2068 gg h
      · replace h := (if_neg c2074).symm.trans h
        obtain ⟨v2137, m2138, e2139, h⟩ := xc_m_e h
        have g2751 : xf_r fl_mm_findSafe m0 m2138 := xf_t gg (xf_s rfl (mm_stays_fr e2139))
        by_cases c2141 : v2137 = 0
        · replace h := (if_pos c2141).symm.trans h
          obtain ⟨-, h⟩ := xg_e h
          obtain ⟨m2143, e2144, h⟩ := xs_e h
          have g2752 : xf_r fl_mm_findSafe m0 m2143 := xf_t g2751 (by rw [e2144]; exact xf_i rfl)
          clear e2144
          exact ih (1 : Int32) (a2071 + (1 : Int32)) m2143 g2752 h
        · replace h := (if_neg c2141).symm.trans h
          exact ih a2070 (a2071 + (1 : Int32)) m2138 g2751 h
theorem mm_findSafe_l25_fr {F : Nat} {a2065 : Int32} {k : xm_S → Option (xm_S)} {m0 m' : xm_S} 
    (hk : ∀ (m : xm_S), xf_r fl_mm_findSafe m0 m → k m = some m' → xf_r fl_mm_findSafe m0 m') : ∀ (fu : Nat) (a2066 : Int32) (m2064 : xm_S), xf_r fl_mm_findSafe m0 m2064 → mm_findSafe_l25 F a2065 k fu a2066 m2064 = some m' → xf_r fl_mm_findSafe m0 m' := by
  intro fu
  induction fu with
  | zero => intro a2066 m2064 gg h; cases h
  | succ fu ih =>
    intro a2066 m2064 gg h
    rw [mm_findSafe_l25] at h
    by_cases c2067 : a2066 = 0
    · replace h := (if_pos c2067).symm.trans h
      exact hk m2064 gg h
    · replace h := (if_neg c2067).symm.trans h
      refine mm_findSafe_l33_fr (fun x2145 m2146 g2753 h => ?_) F (0 : Int32) (0 : Int32) m2064 gg h
      exact ih x2145 m2146 g2753 h
theorem mm_findSafe_l84_fr {F : Nat} {k : xm_S → Option (xm_S)} {m0 m' : xm_S} 
    (hk : ∀ (m : xm_S), xf_r fl_mm_findSafe m0 m → k m = some m' → xf_r fl_mm_findSafe m0 m') : ∀ (fu : Nat) (a2151 : Int32) (m2150 : xm_S), xf_r fl_mm_findSafe m0 m2150 → mm_findSafe_l84 F k fu a2151 m2150 = some m' → xf_r fl_mm_findSafe m0 m' := by
  intro fu
  induction fu with
  | zero => intro a2151 m2150 gg h; cases h
  | succ fu ih =>
    intro a2151 m2150 gg h
    rw [mm_findSafe_l84] at h
    by_cases c2152 : (m2150.1 35 18) ≤ a2151
    · replace h := (if_pos c2152).symm.trans h
      exact hk m2150 gg h
    · replace h := (if_neg c2152).symm.trans h
      obtain ⟨-, h⟩ := xg_e h
      by_cases c2154 : (m2150.1 52 a2151.toNatClampNeg) = 0
      · replace h := (if_pos c2154).symm.trans h
        obtain ⟨m2155, e2156, h⟩ := xs_e h
        have g2754 : xf_r fl_mm_findSafe m0 m2155 := xf_t gg (by rw [e2156]; exact xf_i rfl)
        clear e2156
        exact ih (a2151 + (1 : Int32)) m2155 g2754 h
      · replace h := (if_neg c2154).symm.trans h
        obtain ⟨m2157, e2158, h⟩ := xs_e h
        have g2755 : xf_r fl_mm_findSafe m0 m2157 := xf_t gg (by rw [e2158]; exact xf_i rfl)
        clear e2158
        exact ih (a2151 + (1 : Int32)) m2157 g2755 h
theorem mm_findSafe_fr {F : Nat} {a1 : Int32} {m0 m' : xm_S} (h : mm_findSafe F a1 m0 = some m') : xf_r fl_mm_findSafe m0 m' := by
  unfold mm_findSafe at h
  have gg : xf_r fl_mm_findSafe m0 m0 := xf_0
  refine mm_findSafe_l2_fr (fun m2063 g2756 h => ?_) F (0 : Int32) m0 gg h
  refine mm_findSafe_l25_fr (fun m2147 g2757 h => ?_) F (1 : Int32) m2063 g2756 h
  obtain ⟨m2148, e2149, h⟩ := xs_e h
  have g2758 : xf_r fl_mm_findSafe m0 m2148 := xf_t g2757 (by rw [e2149]; exact xf_i rfl)
  clear e2149
  refine mm_findSafe_l84_fr (fun m2159 g2759 h => ?_) F (0 : Int32) m2148 g2758 h
  obtain rfl := Option.some.inj h
  exact g2759
def fl_mm_numberOf : List Nat := [35, 53, 54]
theorem mm_numberOf_fr {F : Nat} {a1 : Int32} {r : Int32} {m0 m' : xm_S} (h : mm_numberOf F a1 m0 = some (r, m')) : xf_r fl_mm_numberOf m0 m' := by
  unfold mm_numberOf at h
  have gg : xf_r fl_mm_numberOf m0 m0 := xf_0
  obtain ⟨-, h⟩ := xg_e h
  obtain ⟨j2211, e2212, h⟩ := xj_e h
  have q2213 : ∀ (m2210 : xm_S), xf_r fl_mm_numberOf m0 m2210 → j2211 m2210 = some (r, m') → xf_r fl_mm_numberOf m0 m' := by
    intro m2210 g2760 h
    rw [e2212] at h
    obtain ⟨-, h⟩ := xg_e h
    obtain ⟨rfl, rfl⟩ := Prod.mk.inj (Option.some.inj h)
    exact g2760
  clear e2212
  by_cases c2215 : 0 ≤ (m0.1 53 a1.toNatClampNeg)
  · replace h := (if_pos c2215).symm.trans h
    exact q2213 m0 gg h
  · replace h := (if_neg c2215).symm.trans h
    obtain ⟨-, h⟩ := xg_e h
    obtain ⟨m2217, e2218, h⟩ := xs_e h
    have g2761 : xf_r fl_mm_numberOf m0 m2217 := xf_t gg (by rw [e2218]; exact xf_i rfl)
    clear e2218
    obtain ⟨-, h⟩ := xg_e h
    obtain ⟨m2220, e2221, h⟩ := xs_e h
    have g2762 : xf_r fl_mm_numberOf m0 m2220 := xf_t g2761 (by rw [e2221]; exact xf_i rfl)
    clear e2221
    obtain ⟨m2222, e2223, h⟩ := xs_e h
    have g2763 : xf_r fl_mm_numberOf m0 m2222 := xf_t g2762 (by rw [e2223]; exact xf_i rfl)
    clear e2223
    exact q2213 m2222 g2763 h
def fl_mm_build : List Nat := [35, 53, 54, 55, 56]
theorem mm_build_l36_fr {F : Nat} {a2192 : Int32} {k : xm_S → Option (xm_S)} {m0 m' : xm_S} 
    (hk : ∀ (m : xm_S), xf_r fl_mm_build m0 m → k m = some m' → xf_r fl_mm_build m0 m') : ∀ (fu : Nat) (a2193 : Int32) (m2191 : xm_S), xf_r fl_mm_build m0 m2191 → mm_build_l36 F a2192 k fu a2193 m2191 = some m' → xf_r fl_mm_build m0 m' := by
  intro fu
  induction fu with
  | zero => intro a2193 m2191 gg h; cases h
  | succ fu ih =>
    intro a2193 m2191 gg h
    rw [mm_build_l36] at h
    by_cases c2194 : (100 : Int32) ≤ a2193
    · replace h := (if_pos c2194).symm.trans h
      exact hk m2191 gg h
    · replace h := (if_neg c2194).symm.trans h
      obtain ⟨-, h⟩ := xg_e h
      obtain ⟨m2196, e2197, h⟩ := xs_e h
      have g2764 : xf_r fl_mm_build m0 m2196 := xf_t gg (by rw [e2197]; exact xf_i rfl)
      clear e2197
      exact ih (a2193 + (1 : Int32)) m2196 g2764 h
theorem mm_build_l82_fr {F : Nat} {a2234 : Int32} {a2235 : Int32} {a2236 : Int32} {k : xm_S → Option (xm_S)} {m0 m' : xm_S} 
    (hk : ∀ (m : xm_S), xf_r fl_mm_build m0 m → k m = some m' → xf_r fl_mm_build m0 m') : ∀ (fu : Nat) (a2237 : Int32) (m2233 : xm_S), xf_r fl_mm_build m0 m2233 → mm_build_l82 F a2234 a2235 a2236 k fu a2237 m2233 = some m' → xf_r fl_mm_build m0 m' := by
  intro fu
  induction fu with
  | zero => intro a2237 m2233 gg h; cases h
  | succ fu ih =>
    intro a2237 m2233 gg h
    rw [mm_build_l82] at h
    by_cases c2238 : (4 : Int32) ≤ a2237
    · replace h := (if_pos c2238).symm.trans h
      exact hk m2233 gg h
    · replace h := (if_neg c2238).symm.trans h
      obtain ⟨j2251, e2252, h⟩ := xj_e h
      have q2253 : ∀ (x2249 : Int32) (m2250 : xm_S), xf_r fl_mm_build m0 m2250 → j2251 x2249 m2250 = some m' → xf_r fl_mm_build m0 m' := by
        intro x2249 m2250 g2765 h
        rw [e2252] at h
        obtain ⟨-, h⟩ := xg_e h
        obtain ⟨m2255, e2256, h⟩ := xs_e h
        have g2766 : xf_r fl_mm_build m0 m2255 := xf_t g2765 (by rw [e2256]; exact xf_i rfl)
        clear e2256
        obtain ⟨-, h⟩ := xg_e h
        obtain ⟨v2259, m2260, e2261, h⟩ := xc_m_e h
        have g2767 : xf_r fl_mm_build m0 m2260 := xf_t g2766 (xf_s rfl (mm_numberOf_fr e2261))
        obtain ⟨-, h⟩ := xg_e h
        obtain ⟨m2264, e2265, h⟩ := xs_e h
        have g2768 : xf_r fl_mm_build m0 m2264 := xf_t g2767 (by rw [e2265]; exact xf_i rfl)
        clear e2265
        exact ih (a2237 + (1 : Int32)) m2264 g2768 h
      clear e2252
      by_cases c2267 : a2234 = 0
      · replace h := (if_pos c2267).symm.trans h
        obtain ⟨v2268, m2269, e2270, h⟩ := xc_m_e h
        have g2769 : xf_r fl_mm_build m0 m2269 := xf_t gg (xf_s rfl (mm_input_fr e2270))
        exact q2253 v2268 m2269 g2769 h
      · replace h := (if_neg c2267).symm.trans h
        obtain ⟨v2272, m2273, e2274, h⟩ := xc_m_e h
        have g2770 : xf_r fl_mm_build m0 m2273 := xf_t gg (xf_s rfl (mm_output_fr e2274))
        exact q2253 v2272 m2273 g2770 h
theorem mm_build_l63_fr {F : Nat} {a2229 : Int32} {k : xm_S → Option (xm_S)} {m0 m' : xm_S} 
    (hk : ∀ (m : xm_S), xf_r fl_mm_build m0 m → k m = some m' → xf_r fl_mm_build m0 m') : ∀ (fu : Nat) (a2230 : Int32) (m2228 : xm_S), xf_r fl_mm_build m0 m2228 → mm_build_l63 F a2229 k fu a2230 m2228 = some m' → xf_r fl_mm_build m0 m' := by
  intro fu
  induction fu with
  | zero => intro a2230 m2228 gg h; cases h
  | succ fu ih =>
    intro a2230 m2228 gg h
    rw [mm_build_l63] at h
    by_cases c2231 : (m2228.1 35 24) ≤ a2230
    · replace h := (if_pos c2231).symm.trans h
      exact hk m2228 gg h
    · replace h := (if_neg c2231).symm.trans h
      obtain ⟨-, h⟩ := xg_e h
      refine mm_build_l82_fr (fun m2276 g2771 h => ?_) F (0 : Int32) m2228 gg h
      exact ih (a2230 + (1 : Int32)) m2276 g2771 h
theorem mm_build_fr {F : Nat} {a1 : Int32} {m0 m' : xm_S} (h : mm_build F a1 m0 = some m') : xf_r fl_mm_build m0 m' := by
  unfold mm_build at h
  have gg : xf_r fl_mm_build m0 m0 := xf_0
  obtain ⟨m2183, e2184, h⟩ := xs_e h
  have g2772 : xf_r fl_mm_build m0 m2183 := xf_t gg (by rw [e2184]; exact xf_i rfl)
  clear e2184
  obtain ⟨m2185, e2186, h⟩ := xs_e h
  have g2773 : xf_r fl_mm_build m0 m2185 := xf_t g2772 (by rw [e2186]; exact xf_i rfl)
  clear e2186
  obtain ⟨m2187, e2188, h⟩ := xs_e h
  have g2774 : xf_r fl_mm_build m0 m2187 := xf_t g2773 (by rw [e2188]; exact xf_i rfl)
  clear e2188
  obtain ⟨m2189, e2190, h⟩ := xs_e h
  have g2775 : xf_r fl_mm_build m0 m2189 := xf_t g2774 (by rw [e2190]; exact xf_i rfl)
  clear e2190
  refine mm_build_l36_fr (fun m2198 g2776 h => ?_) F (0 : Int32) m2189 g2775 h
  obtain ⟨v2224, m2225, e2226, h⟩ := xc_m_e h
  have g2777 : xf_r fl_mm_build m0 m2225 := xf_t g2776 (xf_s rfl (mm_numberOf_fr e2226))
  refine mm_build_l63_fr (fun m2277 g2778 h => ?_) F v2224 m2225 g2777 h
  obtain rfl := Option.some.inj h
  exact g2778
def fl_mm_solve : List Nat := [35, 36, 37, 38, 39, 40, 41, 42, 43, 44, 45, 46, 47, 48, 49, 50, 51, 52, 53, 54, 55, 56]
theorem mm_solve_fr {F : Nat} {a1 : Int32} {a2 : Int32} {r : Int32} {m0 m' : xm_S} (h : mm_solve F a1 a2 m0 = some (r, m')) : xf_r fl_mm_solve m0 m' := by
  unfold mm_solve at h
  have gg : xf_r fl_mm_solve m0 m0 := xf_0
  by_cases c1928 : (mm_isFormula a1 m0) = 0
  · replace h := (if_pos c1928).symm.trans h
    obtain ⟨rfl, rfl⟩ := Prod.mk.inj (Option.some.inj h)
    exact gg
  · replace h := (if_neg c1928).symm.trans h
    by_cases c1929 : a2 < 0
    · replace h := (if_pos c1929).symm.trans h
      obtain ⟨rfl, rfl⟩ := Prod.mk.inj (Option.some.inj h)
      exact gg
    · replace h := (if_neg c1929).symm.trans h
      by_cases c1930 : a2 ≤ (3 : Int32)
      · replace h := (if_pos c1930).symm.trans h
        obtain ⟨m1931, e1932, h⟩ := xs_e h
        have g2779 : xf_r fl_mm_solve m0 m1931 := xf_t gg (by rw [e1932]; exact xf_i rfl)
        clear e1932
        obtain ⟨m1933, e1934, h⟩ := xs_e h
        have g2780 : xf_r fl_mm_solve m0 m1933 := xf_t g2779 (by rw [e1934]; exact xf_i rfl)
        clear e1934
        obtain ⟨m1935, e1936, h⟩ := xs_e h
        have g2781 : xf_r fl_mm_solve m0 m1935 := xf_t g2780 (by rw [e1936]; exact xf_i rfl)
        clear e1936
        obtain ⟨m1937, e1938, h⟩ := xs_e h
        have g2782 : xf_r fl_mm_solve m0 m1937 := xf_t g2781 (by rw [e1938]; exact xf_i rfl)
        clear e1938
        obtain ⟨v1939, m1940, e1941, h⟩ := xc_m_e h
        have g2783 : xf_r fl_mm_solve m0 m1940 := xf_t g2782 (xf_s rfl (mm_dual_fr e1941))
        by_cases c1943 : v1939 < 0
        · replace h := (if_pos c1943).symm.trans h
          obtain ⟨rfl, rfl⟩ := Prod.mk.inj (Option.some.inj h)
          exact g2783
        · replace h := (if_neg c1943).symm.trans h
          obtain ⟨v1944, m1945, e1946, h⟩ := xc_m_e h
          have g2784 : xf_r fl_mm_solve m0 m1945 := xf_t g2783 (xf_s rfl (mm_automaton_fr e1946))
          by_cases c1948 : v1944 = 0
          · replace h := (if_pos c1948).symm.trans h
            obtain ⟨rfl, rfl⟩ := Prod.mk.inj (Option.some.inj h)
            exact g2784
          · replace h := (if_neg c1948).symm.trans h
            obtain ⟨v2051, m2052, e2053, h⟩ := xc_m_e h
            have g2785 : xf_r fl_mm_solve m0 m2052 := xf_t g2784 (xf_s rfl (mm_game_fr e2053))
            by_cases c2055 : v2051 = 0
            · replace h := (if_pos c2055).symm.trans h
              obtain ⟨rfl, rfl⟩ := Prod.mk.inj (Option.some.inj h)
              exact g2785
            · replace h := (if_neg c2055).symm.trans h
              obtain ⟨m2161, e2162, h⟩ := xc_v_e h
              have g2786 : xf_r fl_mm_solve m0 m2161 := xf_t g2785 (xf_s rfl (mm_findSafe_fr e2162))
              obtain ⟨-, h⟩ := xg_e h
              by_cases c2165 : (m2161.1 52 (0 : Int32).toNatClampNeg) = 0
              · replace h := (if_pos c2165).symm.trans h
                obtain ⟨v2166, m2167, e2168, h⟩ := xc_m_e h
                have g2787 : xf_r fl_mm_solve m0 m2167 := xf_t g2786 (xf_s rfl (mm_automaton_fr e2168))
                by_cases c2170 : v2166 = 0
                · replace h := (if_pos c2170).symm.trans h
                  obtain ⟨rfl, rfl⟩ := Prod.mk.inj (Option.some.inj h)
                  exact g2787
                · replace h := (if_neg c2170).symm.trans h
                  obtain ⟨v2171, m2172, e2173, h⟩ := xc_m_e h
                  have g2788 : xf_r fl_mm_solve m0 m2172 := xf_t g2787 (xf_s rfl (mm_game_fr e2173))
                  by_cases c2175 : v2171 = 0
                  · replace h := (if_pos c2175).symm.trans h
                    obtain ⟨rfl, rfl⟩ := Prod.mk.inj (Option.some.inj h)
                    exact g2788
                  · replace h := (if_neg c2175).symm.trans h
                    obtain ⟨m2177, e2178, h⟩ := xc_v_e h
                    have g2789 : xf_r fl_mm_solve m0 m2177 := xf_t g2788 (xf_s rfl (mm_findSafe_fr e2178))
                    obtain ⟨-, h⟩ := xg_e h
                    obtain ⟨j2285, e2286, h⟩ := xj_e h
                    have q2287 : ∀ (m2284 : xm_S), xf_r fl_mm_solve m0 m2284 → j2285 m2284 = some (r, m') → xf_r fl_mm_solve m0 m' := by
                      intro m2284 g2790 h
                      rw [e2286] at h
                      obtain ⟨-, h⟩ := xg_e h
                      by_cases c2289 : (m2284.1 52 (0 : Int32).toNatClampNeg) = 0
                      · replace h := (if_pos c2289).symm.trans h
                        obtain ⟨rfl, rfl⟩ := Prod.mk.inj (Option.some.inj h)
                        exact g2790
                      · replace h := (if_neg c2289).symm.trans h
                        obtain ⟨rfl, rfl⟩ := Prod.mk.inj (Option.some.inj h)
                        exact g2790
                    clear e2286
                    by_cases c2290 : (m2177.1 52 (0 : Int32).toNatClampNeg) = 0
                    · replace h := (if_pos c2290).symm.trans h
                      exact q2287 m2177 g2789 h
                    · replace h := (if_neg c2290).symm.trans h
                      obtain ⟨m2292, e2293, h⟩ := xc_v_e h
                      have g2791 : xf_r fl_mm_solve m0 m2292 := xf_t g2789 (xf_s rfl (mm_build_fr e2293))
                      exact q2287 m2292 g2791 h
              · replace h := (if_neg c2165).symm.trans h
                obtain ⟨m2296, e2297, h⟩ := xc_v_e h
                have g2792 : xf_r fl_mm_solve m0 m2296 := xf_t g2786 (xf_s rfl (mm_build_fr e2297))
                obtain ⟨rfl, rfl⟩ := Prod.mk.inj (Option.some.inj h)
                exact g2792
      · replace h := (if_neg c1930).symm.trans h
        obtain ⟨rfl, rfl⟩ := Prod.mk.inj (Option.some.inj h)
        exact gg
def fl_mm_gives : List Nat := []
theorem mm_gives_fr {F : Nat} {a1 : Int32} {a2 : Int32} {r : Int32} {m0 m' : xm_S} (h : mm_gives F a1 a2 m0 = some (r, m')) : xf_r fl_mm_gives m0 m' := by
  unfold mm_gives at h
  have gg : xf_r fl_mm_gives m0 m0 := xf_0
  by_cases c2312 : (mm_isThere a1 (if (m0.1 35 23) = (2 : Int32) then (0 : Int32) else a2) m0) = 0
  · replace h := (if_pos c2312).symm.trans h
    obtain ⟨rfl, rfl⟩ := Prod.mk.inj (Option.some.inj h)
    exact gg
  · replace h := (if_neg c2312).symm.trans h
    obtain ⟨-, h⟩ := xg_e h
    obtain ⟨rfl, rfl⟩ := Prod.mk.inj (Option.some.inj h)
    exact gg
def fl_mm_next : List Nat := []
theorem mm_next_fr {F : Nat} {a1 : Int32} {a2 : Int32} {r : Int32} {m0 m' : xm_S} (h : mm_next F a1 a2 m0 = some (r, m')) : xf_r fl_mm_next m0 m' := by
  unfold mm_next at h
  have gg : xf_r fl_mm_next m0 m0 := xf_0
  by_cases c2316 : (mm_isThere a1 a2 m0) = 0
  · replace h := (if_pos c2316).symm.trans h
    obtain ⟨rfl, rfl⟩ := Prod.mk.inj (Option.some.inj h)
    exact gg
  · replace h := (if_neg c2316).symm.trans h
    obtain ⟨-, h⟩ := xg_e h
    obtain ⟨rfl, rfl⟩ := Prod.mk.inj (Option.some.inj h)
    exact gg
def fl_la_law : List Nat := [1, 2, 3, 4, 5, 6, 7, 8, 9, 10, 11, 12, 13, 14, 15, 16, 17, 18, 19, 20, 21, 22, 23, 24, 25, 26, 27, 28, 29, 30, 31, 32, 33, 34, 35, 36, 37, 38, 39, 40, 41, 42, 43, 44, 45, 46, 47, 48, 49, 50, 51, 52, 53, 54, 55, 56, 57, 58]
theorem la_law_l18_fr {xt : Nat → Nat × (Nat → Int32)} {F : Nat} {k : Nat → xm_S → Option (Int32 × Nat × xm_S)} {r : Int32} {m0 m' : xm_S} {n' : Nat} 
    (hk : ∀ (n1 : Nat) (m : xm_S), xf_r fl_la_law m0 m → k n1 m = some (r, n', m') → xf_r fl_la_law m0 m') : ∀ (fu : Nat) (a2320 : Int32) (n2319 : Nat) (m2318 : xm_S), xf_r fl_la_law m0 m2318 → la_law_l18 F xt k fu a2320 n2319 m2318 = some (r, n', m') → xf_r fl_la_law m0 m' := by
  intro fu
  induction fu with
  | zero => intro a2320 n2319 m2318 gg h; cases h
  | succ fu ih =>
    intro a2320 n2319 m2318 gg h
    rw [la_law_l18] at h
    by_cases c2321 : ((nI (xt 0).1) - (8 : Int32)) < a2320
    · replace h := (if_pos c2321).symm.trans h
      exact hk n2319 m2318 gg h
    · replace h := (if_neg c2321).symm.trans h
      obtain ⟨-, h⟩ := xg_e h
      by_cases c2323 : (((xt 0).2 a2320.toNatClampNeg) &&& (15 : Int32)) = (0 : Int32)
      · replace h := (if_pos c2323).symm.trans h
        obtain ⟨-, h⟩ := xg_e h
        obtain ⟨-, h⟩ := xg_e h
        obtain ⟨-, h⟩ := xg_e h
        obtain ⟨v2327, m2328, e2329, h⟩ := xc_m_e h
        have g2793 : xf_r fl_la_law m0 m2328 := xf_t gg (xf_s rfl (mk_formula_fr e2329))
        obtain ⟨-, h⟩ := xg_e h
        obtain ⟨-, h⟩ := xg_e h
        obtain ⟨-, h⟩ := xg_e h
        obtain ⟨v2334, m2335, e2336, h⟩ := xc_m_e h
        have g2794 : xf_r fl_la_law m0 m2335 := xf_t g2793 (xf_s rfl (mm_formula_fr e2336))
        by_cases c2338 : v2327 = v2334
        · replace h := (if_pos c2338).symm.trans h
          exact ih (a2320 + (8 : Int32)) n2319 m2335 g2794 h
        · replace h := (if_neg c2338).symm.trans h
          obtain ⟨rfl, h9⟩ := Prod.mk.inj (Option.some.inj h)
          obtain ⟨rfl, rfl⟩ := Prod.mk.inj h9
          exact g2794
      replace h := (if_neg c2323).symm.trans h
      by_cases c2339 : (((xt 0).2 a2320.toNatClampNeg) &&& (15 : Int32)) = (1 : Int32)
      · replace h := (if_pos c2339).symm.trans h
        obtain ⟨-, h⟩ := xg_e h
        obtain ⟨v2341, m2342, e2343, h⟩ := xc_m_e h
        have g2795 : xf_r fl_la_law m0 m2342 := xf_t gg (xf_s rfl (mk_dual_fr e2343))
        obtain ⟨-, h⟩ := xg_e h
        obtain ⟨v2346, m2347, e2348, h⟩ := xc_m_e h
        have g2796 : xf_r fl_la_law m0 m2347 := xf_t g2795 (xf_s rfl (mm_dual_fr e2348))
        by_cases c2350 : v2341 = v2346
        · replace h := (if_pos c2350).symm.trans h
          exact ih (a2320 + (8 : Int32)) n2319 m2347 g2796 h
        · replace h := (if_neg c2350).symm.trans h
          obtain ⟨rfl, h9⟩ := Prod.mk.inj (Option.some.inj h)
          obtain ⟨rfl, rfl⟩ := Prod.mk.inj h9
          exact g2796
      replace h := (if_neg c2339).symm.trans h
      by_cases c2351 : (((xt 0).2 a2320.toNatClampNeg) &&& (15 : Int32)) = (2 : Int32)
      · replace h := (if_pos c2351).symm.trans h
        by_cases c2352 : (mk_formulas m2318) = (mm_formulas m2318)
        · replace h := (if_pos c2352).symm.trans h
          exact ih (a2320 + (8 : Int32)) n2319 m2318 gg h
        · replace h := (if_neg c2352).symm.trans h
          obtain ⟨rfl, h9⟩ := Prod.mk.inj (Option.some.inj h)
          obtain ⟨rfl, rfl⟩ := Prod.mk.inj h9
          exact gg
      replace h := (if_neg c2351).symm.trans h
      by_cases c2353 : (((xt 0).2 a2320.toNatClampNeg) &&& (15 : Int32)) = (3 : Int32)
      · replace h := (if_pos c2353).symm.trans h
        obtain ⟨-, h⟩ := xg_e h
        obtain ⟨-, h⟩ := xg_e h
        obtain ⟨-, h⟩ := xg_e h
        obtain ⟨-, h⟩ := xg_e h
        obtain ⟨-, h⟩ := xg_e h
        obtain ⟨-, h⟩ := xg_e h
        obtain ⟨-, h⟩ := xg_e h
        obtain ⟨v2361, m2362, e2363, h⟩ := xc_m_e h
        have g2797 : xf_r fl_la_law m0 m2362 := xf_t gg (xf_s rfl (mk_has_fr e2363))
        obtain ⟨-, h⟩ := xg_e h
        obtain ⟨-, h⟩ := xg_e h
        obtain ⟨-, h⟩ := xg_e h
        obtain ⟨-, h⟩ := xg_e h
        obtain ⟨-, h⟩ := xg_e h
        obtain ⟨-, h⟩ := xg_e h
        obtain ⟨-, h⟩ := xg_e h
        obtain ⟨v2372, m2373, e2374, h⟩ := xc_m_e h
        have g2798 : xf_r fl_la_law m0 m2373 := xf_t g2797 (xf_s rfl (mm_has_fr e2374))
        by_cases c2376 : v2361 = v2372
        · replace h := (if_pos c2376).symm.trans h
          exact ih (a2320 + (8 : Int32)) n2319 m2373 g2798 h
        · replace h := (if_neg c2376).symm.trans h
          obtain ⟨rfl, h9⟩ := Prod.mk.inj (Option.some.inj h)
          obtain ⟨rfl, rfl⟩ := Prod.mk.inj h9
          exact g2798
      replace h := (if_neg c2353).symm.trans h
      by_cases c2377 : (((xt 0).2 a2320.toNatClampNeg) &&& (15 : Int32)) = (4 : Int32)
      · replace h := (if_pos c2377).symm.trans h
        obtain ⟨-, h⟩ := xg_e h
        obtain ⟨-, h⟩ := xg_e h
        obtain ⟨v2380, n2383, m2381, e2382, l2384, h⟩ := xc_a_e h
        have g2799 : xf_r fl_la_law m0 m2381 := xf_t gg (xf_s rfl (mk_ways_fr e2382))
        obtain ⟨-, h⟩ := xg_e h
        obtain ⟨-, h⟩ := xg_e h
        obtain ⟨v2387, m2388, e2389, h⟩ := xc_m_e h
        have g2800 : xf_r fl_la_law m0 m2388 := xf_t g2799 (xf_s rfl (mm_ways_fr e2389))
        by_cases c2391 : v2380 = v2387
        · replace h := (if_pos c2391).symm.trans h
          exact ih (a2320 + (8 : Int32)) n2383 m2388 g2800 h
        · replace h := (if_neg c2391).symm.trans h
          obtain ⟨rfl, h9⟩ := Prod.mk.inj (Option.some.inj h)
          obtain ⟨rfl, rfl⟩ := Prod.mk.inj h9
          exact g2800
      replace h := (if_neg c2377).symm.trans h
      by_cases c2392 : (((xt 0).2 a2320.toNatClampNeg) &&& (15 : Int32)) = (5 : Int32)
      · replace h := (if_pos c2392).symm.trans h
        obtain ⟨-, h⟩ := xg_e h
        obtain ⟨v2394, n2397, m2395, e2396, l2398, h⟩ := xc_a_e h
        have g2801 : xf_r fl_la_law m0 m2395 := xf_t gg (xf_s rfl (mk_states_fr e2396))
        obtain ⟨-, h⟩ := xg_e h
        obtain ⟨v2400, m2401, e2402, h⟩ := xc_m_e h
        have g2802 : xf_r fl_la_law m0 m2401 := xf_t g2801 (xf_s rfl (mm_states_fr e2402))
        by_cases c2404 : v2394 = v2400
        · replace h := (if_pos c2404).symm.trans h
          exact ih (a2320 + (8 : Int32)) n2397 m2401 g2802 h
        · replace h := (if_neg c2404).symm.trans h
          obtain ⟨rfl, h9⟩ := Prod.mk.inj (Option.some.inj h)
          obtain ⟨rfl, rfl⟩ := Prod.mk.inj h9
          exact g2802
      replace h := (if_neg c2392).symm.trans h
      by_cases c2405 : (((xt 0).2 a2320.toNatClampNeg) &&& (15 : Int32)) = (6 : Int32)
      · replace h := (if_pos c2405).symm.trans h
        obtain ⟨-, h⟩ := xg_e h
        obtain ⟨-, h⟩ := xg_e h
        obtain ⟨v2408, n2411, m2409, e2410, l2412, h⟩ := xc_a_e h
        have g2803 : xf_r fl_la_law m0 m2409 := xf_t gg (xf_s rfl (mk_solve_fr e2410))
        obtain ⟨-, h⟩ := xg_e h
        obtain ⟨-, h⟩ := xg_e h
        obtain ⟨v2415, m2416, e2417, h⟩ := xc_m_e h
        have g2804 : xf_r fl_la_law m0 m2416 := xf_t g2803 (xf_s rfl (mm_solve_fr e2417))
        by_cases c2419 : v2408 = v2415
        · replace h := (if_pos c2419).symm.trans h
          exact ih (a2320 + (8 : Int32)) n2411 m2416 g2804 h
        · replace h := (if_neg c2419).symm.trans h
          obtain ⟨rfl, h9⟩ := Prod.mk.inj (Option.some.inj h)
          obtain ⟨rfl, rfl⟩ := Prod.mk.inj h9
          exact g2804
      replace h := (if_neg c2405).symm.trans h
      by_cases c2420 : (((xt 0).2 a2320.toNatClampNeg) &&& (15 : Int32)) = (7 : Int32)
      · replace h := (if_pos c2420).symm.trans h
        obtain ⟨-, h⟩ := xg_e h
        obtain ⟨-, h⟩ := xg_e h
        by_cases c2423 : (mk_size ((xt 0).2 (a2320 + (1 : Int32)).toNatClampNeg) m2318) = (mm_size ((xt 0).2 (a2320 + (1 : Int32)).toNatClampNeg) m2318)
        · replace h := (if_pos c2423).symm.trans h
          exact ih (a2320 + (8 : Int32)) n2319 m2318 gg h
        · replace h := (if_neg c2423).symm.trans h
          obtain ⟨rfl, h9⟩ := Prod.mk.inj (Option.some.inj h)
          obtain ⟨rfl, rfl⟩ := Prod.mk.inj h9
          exact gg
      replace h := (if_neg c2420).symm.trans h
      by_cases c2424 : (((xt 0).2 a2320.toNatClampNeg) &&& (15 : Int32)) = (8 : Int32)
      · replace h := (if_pos c2424).symm.trans h
        obtain ⟨-, h⟩ := xg_e h
        obtain ⟨-, h⟩ := xg_e h
        obtain ⟨v2427, m2428, e2429, h⟩ := xc_m_e h
        have g2805 : xf_r fl_la_law m0 m2428 := xf_t gg (xf_s rfl (mk_gives_fr e2429))
        obtain ⟨-, h⟩ := xg_e h
        obtain ⟨-, h⟩ := xg_e h
        obtain ⟨v2433, m2434, e2435, h⟩ := xc_m_e h
        have g2806 : xf_r fl_la_law m0 m2434 := xf_t g2805 (xf_s rfl (mm_gives_fr e2435))
        by_cases c2437 : v2427 = v2433
        · replace h := (if_pos c2437).symm.trans h
          exact ih (a2320 + (8 : Int32)) n2319 m2434 g2806 h
        · replace h := (if_neg c2437).symm.trans h
          obtain ⟨rfl, h9⟩ := Prod.mk.inj (Option.some.inj h)
          obtain ⟨rfl, rfl⟩ := Prod.mk.inj h9
          exact g2806
      replace h := (if_neg c2424).symm.trans h
      by_cases c2438 : (((xt 0).2 a2320.toNatClampNeg) &&& (15 : Int32)) = (9 : Int32)
      · replace h := (if_pos c2438).symm.trans h
        obtain ⟨-, h⟩ := xg_e h
        obtain ⟨-, h⟩ := xg_e h
        obtain ⟨v2441, m2442, e2443, h⟩ := xc_m_e h
        have g2807 : xf_r fl_la_law m0 m2442 := xf_t gg (xf_s rfl (mk_next_fr e2443))
        obtain ⟨-, h⟩ := xg_e h
        obtain ⟨-, h⟩ := xg_e h
        obtain ⟨v2447, m2448, e2449, h⟩ := xc_m_e h
        have g2808 : xf_r fl_la_law m0 m2448 := xf_t g2807 (xf_s rfl (mm_next_fr e2449))
        by_cases c2451 : v2441 = v2447
        · replace h := (if_pos c2451).symm.trans h
          exact ih (a2320 + (8 : Int32)) n2319 m2448 g2808 h
        · replace h := (if_neg c2451).symm.trans h
          obtain ⟨rfl, h9⟩ := Prod.mk.inj (Option.some.inj h)
          obtain ⟨rfl, rfl⟩ := Prod.mk.inj h9
          exact g2808
      replace h := (if_neg c2438).symm.trans h
      have c2323z : (((xt 0).2 a2320.toNatClampNeg) &&& (15 : Int32)).toInt ≠ 0 := fun q => c2323 (Int32.toInt_inj.mp (q.trans (by decide)))
      have c2339z : (((xt 0).2 a2320.toNatClampNeg) &&& (15 : Int32)).toInt ≠ 1 := fun q => c2339 (Int32.toInt_inj.mp (q.trans (by decide)))
      have c2351z : (((xt 0).2 a2320.toNatClampNeg) &&& (15 : Int32)).toInt ≠ 2 := fun q => c2351 (Int32.toInt_inj.mp (q.trans (by decide)))
      have c2353z : (((xt 0).2 a2320.toNatClampNeg) &&& (15 : Int32)).toInt ≠ 3 := fun q => c2353 (Int32.toInt_inj.mp (q.trans (by decide)))
      have c2377z : (((xt 0).2 a2320.toNatClampNeg) &&& (15 : Int32)).toInt ≠ 4 := fun q => c2377 (Int32.toInt_inj.mp (q.trans (by decide)))
      have c2392z : (((xt 0).2 a2320.toNatClampNeg) &&& (15 : Int32)).toInt ≠ 5 := fun q => c2392 (Int32.toInt_inj.mp (q.trans (by decide)))
      have c2405z : (((xt 0).2 a2320.toNatClampNeg) &&& (15 : Int32)).toInt ≠ 6 := fun q => c2405 (Int32.toInt_inj.mp (q.trans (by decide)))
      have c2420z : (((xt 0).2 a2320.toNatClampNeg) &&& (15 : Int32)).toInt ≠ 7 := fun q => c2420 (Int32.toInt_inj.mp (q.trans (by decide)))
      have c2424z : (((xt 0).2 a2320.toNatClampNeg) &&& (15 : Int32)).toInt ≠ 8 := fun q => c2424 (Int32.toInt_inj.mp (q.trans (by decide)))
      have c2438z : (((xt 0).2 a2320.toNatClampNeg) &&& (15 : Int32)).toInt ≠ 9 := fun q => c2438 (Int32.toInt_inj.mp (q.trans (by decide)))
      exact ih (a2320 + (8 : Int32)) n2319 m2318 gg h
theorem la_law_fr {xt : Nat → Nat × (Nat → Int32)} {n : Nat} {F : Nat} {r : Int32} {m0 m' : xm_S} {n' : Nat} (h : la_law F xt n m0 = some (r, n', m')) : xf_r fl_la_law m0 m' := by
  unfold la_law at h
  have gg : xf_r fl_la_law m0 m0 := xf_0
  refine la_law_l18_fr (fun n2453 m2452 g2809 h => ?_) F (0 : Int32) n m0 gg h
  obtain ⟨rfl, h9⟩ := Prod.mk.inj (Option.some.inj h)
  obtain ⟨rfl, rfl⟩ := Prod.mk.inj h9
  exact g2809
