/-! Methods as functions, and that they run so (written by program). -/
def mm_join_l66 (F : Nat) (a1800 : Int32) (a1801 : Int32) (a1802 : Int32) (a1803 : Int32) (k : xm_S → Option (Int32 × xm_S)) : Nat → Int32 → xm_S → Option (Int32 × xm_S)
  | 0, _, _ => none
  | fu + 1, a1804, m1799 => xg_n a1801 28 (if (m1799.1 42 a1801.toNatClampNeg) ≤ a1804 then k m1799 else if (60 : Int32) < (m1799.1 35 9) then k m1799 else xg_n a1803 61 (xg_n (((60 : Int32) * a1801) + a1804) 1680 (xc_v (mm_keep F (m1799.1 35 9) ((m1799.2 43 a1803.toNatClampNeg) ||| (m1799.2 41 (((60 : Int32) * a1801) + a1804).toNatClampNeg)) m1799) fun m1836 => mm_join_l66 F a1800 a1801 a1802 a1803 k fu (a1804 + (1 : Int32)) m1836)))
theorem mm_join_l66_ok {xt : Nat → Nat × (Nat → Int32)} (n d : Nat) {F : Nat} {a1800 : Int32} {a1801 : Int32} {a1802 : Int32} {a1803 : Int32} {k : xm_S → Option (Int32 × xm_S)} {r : Int32} {m' : xm_S} 
    (hk : ∀ (m : xm_S), k m = some (r, m') → xm_Run pg xt (d + 1) 101 0 0 (xQ_i (sh n) r m') 120 [some (xv_r 35), some (xv_i a1800), some (xv_i a1801), some (xv_i a1802), some (xv_i a1803), none] [] (xq_2 (sh n) m) 0 0) :
    ∀ (fu : Nat) (a1804 : Int32) (m1799 : xm_S), mm_join_l66 F a1800 a1801 a1802 a1803 k fu a1804 m1799 = some (r, m') → xm_Run pg xt (d + 1) 101 0 0 (xQ_i (sh n) r m') 66 [some (xv_r 35), some (xv_i a1800), some (xv_i a1801), some (xv_i a1802), some (xv_i a1803), some (xv_i a1804)] [] (xq_2 (sh n) m1799) 0 0 := by
  intro fu
  induction fu with
  | zero => intro a1804 m1799 h; cases h
  | succ fu ih =>
    intro a1804 m1799 h
    rw [mm_join_l66] at h
    refine xr_iload (in_101 rfl) rfl ?_
    refine xr_aload_n (in_101 rfl) rfl ?_
    refine xq_getr (in_101 rfl) (fo_101 rfl) (sh_35 n) rfl ?_
    refine xr_iload_n (in_101 rfl) rfl ?_
    obtain ⟨o1805, h⟩ := xg_e h
    refine xq_iald (in_101 rfl) (sh_42 n) o1805 ?_
    by_cases c1806 : (m1799.1 42 a1801.toNatClampNeg) ≤ a1804
    · replace h := (if_pos c1806).symm.trans h
      refine xr_ict 120 (in_101 rfl) rfl c1806 ?_
      refine xr_forget (loc' := [some (xv_r 35), some (xv_i a1800), some (xv_i a1801), some (xv_i a1802), some (xv_i a1803), none]) (xl_s (xl_s (xl_s (xl_s (xl_s (xl_o xl_n)))))) ?_
      exact hk m1799 h
    · replace h := (if_neg c1806).symm.trans h
      refine xr_icf 120 (in_101 rfl) rfl c1806 ?_
      refine xr_aload_n (in_101 rfl) rfl ?_
      refine xq_geti (in_101 rfl) (fo_101 rfl) (sh_35 n) rfl ?_
      refine xr_bipush_ _ (in_101 rfl) (show _ = (60 : Int32) by decide) ?_
      by_cases c1807 : (60 : Int32) < (m1799.1 35 9)
      · replace h := (if_pos c1807).symm.trans h
        refine xr_ict 120 (in_101 rfl) rfl c1807 ?_
        refine xr_forget (loc' := [some (xv_r 35), some (xv_i a1800), some (xv_i a1801), some (xv_i a1802), some (xv_i a1803), none]) (xl_s (xl_s (xl_s (xl_s (xl_s (xl_o xl_n)))))) ?_
        exact hk m1799 h
      · replace h := (if_neg c1807).symm.trans h
        refine xr_icf 120 (in_101 rfl) rfl c1807 ?_
        refine xr_aload_n (in_101 rfl) rfl ?_
        refine xr_aload_n (in_101 rfl) rfl ?_
        refine xq_geti (in_101 rfl) (fo_101 rfl) (sh_35 n) rfl ?_
        refine xr_aload_n (in_101 rfl) rfl ?_
        refine xq_getr (in_101 rfl) (fo_101 rfl) (sh_35 n) rfl ?_
        refine xr_iload (in_101 rfl) rfl ?_
        obtain ⟨o1808, h⟩ := xg_e h
        refine xq_lald (in_101 rfl) (sh_43 n) o1808 ?_
        refine xr_aload_n (in_101 rfl) rfl ?_
        refine xq_getr (in_101 rfl) (fo_101 rfl) (sh_35 n) rfl ?_
        refine xr_bipush_ _ (in_101 rfl) (show _ = (60 : Int32) by decide) ?_
        refine xr_iload_n (in_101 rfl) rfl ?_
        refine xr_imul (in_101 rfl) ?_
        refine xr_iload (in_101 rfl) rfl ?_
        refine xr_iadd (in_101 rfl) ?_
        obtain ⟨o1809, h⟩ := xg_e h
        refine xq_lald (in_101 rfl) (sh_41 n) o1809 ?_
        refine xr_lor (in_101 rfl) ?_
        obtain ⟨m1836, e1837, h⟩ := xc_v_e h
        refine xq_callv [xv_r 35, xv_i (m1799.1 35 9), xv_l ((m1799.2 43 a1803.toNatClampNeg) ||| (m1799.2 41 (((60 : Int32) * a1801) + a1804).toNatClampNeg))] [] [some (xv_r 35), some (xv_i (m1799.1 35 9)), some (xv_l ((m1799.2 43 a1803.toNatClampNeg) ||| (m1799.2 41 (((60 : Int32) * a1801) + a1804).toNatClampNeg))), none, none] (xk_V (in_101 rfl) (sh_35 n)) (cl_101 rfl) rfl rfl rfl rfl (mm_keep_ok n d e1837) ?_
        refine xr_iinc (a1804 + (1 : Int32)) [some (xv_r 35), some (xv_i a1800), some (xv_i a1801), some (xv_i a1802), some (xv_i a1803), some (xv_i (a1804 + (1 : Int32)))] (in_101 rfl) rfl (xi_1 _) (nl_101 rfl) rfl ?_
        refine xr_goto 66 (in_101 rfl) rfl ?_
        exact ih (a1804 + (1 : Int32)) m1836 h
def mm_join_l57 (F : Nat) (a1794 : Int32) (a1795 : Int32) (a1796 : Int32) (k : xm_S → Option (Int32 × xm_S)) : Nat → Int32 → xm_S → Option (Int32 × xm_S)
  | 0, _, _ => none
  | fu + 1, a1797, m1793 => if a1796 ≤ a1797 then k m1793 else mm_join_l66 F a1794 a1795 a1796 a1797 (fun (m1839 : xm_S) => mm_join_l57 F a1794 a1795 a1796 k fu (a1797 + (1 : Int32)) m1839) F (0 : Int32) m1793
theorem mm_join_l57_ok {xt : Nat → Nat × (Nat → Int32)} (n d : Nat) {F : Nat} {a1794 : Int32} {a1795 : Int32} {a1796 : Int32} {k : xm_S → Option (Int32 × xm_S)} {r : Int32} {m' : xm_S} 
    (hk : ∀ (m : xm_S), k m = some (r, m') → xm_Run pg xt (d + 1) 101 0 0 (xQ_i (sh n) r m') 126 [some (xv_r 35), some (xv_i a1794), some (xv_i a1795), none, none, none] [] (xq_2 (sh n) m) 0 0) :
    ∀ (fu : Nat) (a1797 : Int32) (m1793 : xm_S), mm_join_l57 F a1794 a1795 a1796 k fu a1797 m1793 = some (r, m') → xm_Run pg xt (d + 1) 101 0 0 (xQ_i (sh n) r m') 57 [some (xv_r 35), some (xv_i a1794), some (xv_i a1795), some (xv_i a1796), some (xv_i a1797), none] [] (xq_2 (sh n) m1793) 0 0 := by
  intro fu
  induction fu with
  | zero => intro a1797 m1793 h; cases h
  | succ fu ih =>
    intro a1797 m1793 h
    rw [mm_join_l57] at h
    refine xr_iload (in_101 rfl) rfl ?_
    refine xr_iload_n (in_101 rfl) rfl ?_
    by_cases c1798 : a1796 ≤ a1797
    · replace h := (if_pos c1798).symm.trans h
      refine xr_ict 126 (in_101 rfl) rfl c1798 ?_
      refine xr_forget (loc' := [some (xv_r 35), some (xv_i a1794), some (xv_i a1795), none, none, none]) (xl_s (xl_s (xl_s (xl_o (xl_o (xl_o xl_n)))))) ?_
      exact hk m1793 h
    · replace h := (if_neg c1798).symm.trans h
      refine xr_icf 126 (in_101 rfl) rfl c1798 ?_
      refine xr_iconst_ _ (in_101 rfl) (show _ = (0 : Int32) by decide) ?_
      refine xr_istore [some (xv_r 35), some (xv_i a1794), some (xv_i a1795), some (xv_i a1796), some (xv_i a1797), some (xv_i (0 : Int32))] (in_101 rfl) (nl_101 rfl) rfl ?_
      refine mm_join_l66_ok n d (fun m1839 h => ?_) F (0 : Int32) m1793 h
      refine xr_iinc (a1797 + (1 : Int32)) [some (xv_r 35), some (xv_i a1794), some (xv_i a1795), some (xv_i a1796), some (xv_i (a1797 + (1 : Int32))), none] (in_101 rfl) rfl (xi_1 _) (nl_101 rfl) rfl ?_
      refine xr_goto 57 (in_101 rfl) rfl ?_
      exact ih (a1797 + (1 : Int32)) m1839 h
def mm_join_l140 (F : Nat) (a1843 : Int32) (a1844 : Int32) (k : xm_S → Option (Int32 × xm_S)) : Nat → Int32 → xm_S → Option (Int32 × xm_S)
  | 0, _, _ => none
  | fu + 1, a1845, m1842 => if (m1842.1 35 9) ≤ a1845 then k m1842 else xg_n a1845 61 (xg_n a1845 61 (xs_m (xw_l m1842 43 a1845.toNatClampNeg (m1842.2 44 a1845.toNatClampNeg)) fun m1849 => mm_join_l140 F a1843 a1844 k fu (a1845 + (1 : Int32)) m1849))
theorem mm_join_l140_ok {xt : Nat → Nat × (Nat → Int32)} (n d : Nat) {F : Nat} {a1843 : Int32} {a1844 : Int32} {k : xm_S → Option (Int32 × xm_S)} {r : Int32} {m' : xm_S} 
    (hk : ∀ (m : xm_S), k m = some (r, m') → xm_Run pg xt (d + 1) 101 0 0 (xQ_i (sh n) r m') 169 [some (xv_r 35), some (xv_i a1843), some (xv_i a1844), none, none, none] [] (xq_2 (sh n) m) 0 0) :
    ∀ (fu : Nat) (a1845 : Int32) (m1842 : xm_S), mm_join_l140 F a1843 a1844 k fu a1845 m1842 = some (r, m') → xm_Run pg xt (d + 1) 101 0 0 (xQ_i (sh n) r m') 140 [some (xv_r 35), some (xv_i a1843), some (xv_i a1844), none, some (xv_i a1845), none] [] (xq_2 (sh n) m1842) 0 0 := by
  intro fu
  induction fu with
  | zero => intro a1845 m1842 h; cases h
  | succ fu ih =>
    intro a1845 m1842 h
    rw [mm_join_l140] at h
    refine xr_iload (in_101 rfl) rfl ?_
    refine xr_aload_n (in_101 rfl) rfl ?_
    refine xq_geti (in_101 rfl) (fo_101 rfl) (sh_35 n) rfl ?_
    by_cases c1846 : (m1842.1 35 9) ≤ a1845
    · replace h := (if_pos c1846).symm.trans h
      refine xr_ict 169 (in_101 rfl) rfl c1846 ?_
      refine xr_forget (loc' := [some (xv_r 35), some (xv_i a1843), some (xv_i a1844), none, none, none]) (xl_s (xl_s (xl_s (xl_o (xl_o (xl_o xl_n)))))) ?_
      exact hk m1842 h
    · replace h := (if_neg c1846).symm.trans h
      refine xr_icf 169 (in_101 rfl) rfl c1846 ?_
      refine xr_aload_n (in_101 rfl) rfl ?_
      refine xq_getr (in_101 rfl) (fo_101 rfl) (sh_35 n) rfl ?_
      refine xr_iload (in_101 rfl) rfl ?_
      refine xr_aload_n (in_101 rfl) rfl ?_
      refine xq_getr (in_101 rfl) (fo_101 rfl) (sh_35 n) rfl ?_
      refine xr_iload (in_101 rfl) rfl ?_
      obtain ⟨o1847, h⟩ := xg_e h
      refine xq_lald (in_101 rfl) (sh_44 n) o1847 ?_
      obtain ⟨o1848, h⟩ := xg_e h
      refine xq_last (in_101 rfl) (sh_43 n) o1848 ?_
      obtain ⟨m1849, e1850, h⟩ := xs_e h
      rw [← e1850]
      clear e1850
      refine xr_iinc (a1845 + (1 : Int32)) [some (xv_r 35), some (xv_i a1843), some (xv_i a1844), none, some (xv_i (a1845 + (1 : Int32))), none] (in_101 rfl) rfl (xi_1 _) (nl_101 rfl) rfl ?_
      refine xr_goto 140 (in_101 rfl) rfl ?_
      exact ih (a1845 + (1 : Int32)) m1849 h
def mm_join_l14 (F : Nat) (a1785 : Int32) (k : xm_S → Option (Int32 × xm_S)) : Nat → Int32 → xm_S → Option (Int32 × xm_S)
  | 0, _, _ => none
  | fu + 1, a1786, m1784 => if (m1784.1 35 0) ≤ a1786 then k m1784 else if ((a1785 >>> (a1786 &&& 31)) &&& (1 : Int32)) = (1 : Int32) then xg_n a1786 28 (if (m1784.1 42 a1786.toNatClampNeg) ≤ (60 : Int32) then xs_m (xw_i m1784 35 9 (0 : Int32)) fun m1791 => mm_join_l57 F a1785 a1786 (m1784.1 35 9) (fun (m1840 : xm_S) => if (m1840.1 35 9) ≤ (60 : Int32) then mm_join_l140 F a1785 a1786 (fun (m1851 : xm_S) => mm_join_l14 F a1785 k fu (a1786 + (1 : Int32)) m1851) F (0 : Int32) m1840 else some ((0 : Int32), m1840)) F (0 : Int32) m1791 else some ((0 : Int32), m1784)) else mm_join_l14 F a1785 k fu (a1786 + (1 : Int32)) m1784
theorem mm_join_l14_ok {xt : Nat → Nat × (Nat → Int32)} (n d : Nat) {F : Nat} {a1785 : Int32} {k : xm_S → Option (Int32 × xm_S)} {r : Int32} {m' : xm_S} 
    (hk : ∀ (m : xm_S), k m = some (r, m') → xm_Run pg xt (d + 1) 101 0 0 (xQ_i (sh n) r m') 175 [none, none, none, none, none, none] [] (xq_2 (sh n) m) 0 0) :
    ∀ (fu : Nat) (a1786 : Int32) (m1784 : xm_S), mm_join_l14 F a1785 k fu a1786 m1784 = some (r, m') → xm_Run pg xt (d + 1) 101 0 0 (xQ_i (sh n) r m') 14 [some (xv_r 35), some (xv_i a1785), some (xv_i a1786), none, none, none] [] (xq_2 (sh n) m1784) 0 0 := by
  intro fu
  induction fu with
  | zero => intro a1786 m1784 h; cases h
  | succ fu ih =>
    intro a1786 m1784 h
    rw [mm_join_l14] at h
    refine xr_iload_n (in_101 rfl) rfl ?_
    refine xr_aload_n (in_101 rfl) rfl ?_
    refine xq_geti (in_101 rfl) (fo_101 rfl) (sh_35 n) rfl ?_
    by_cases c1787 : (m1784.1 35 0) ≤ a1786
    · replace h := (if_pos c1787).symm.trans h
      refine xr_ict 175 (in_101 rfl) rfl c1787 ?_
      refine xr_forget (loc' := [none, none, none, none, none, none]) (xl_o (xl_o (xl_o (xl_o (xl_o (xl_o xl_n)))))) ?_
      exact hk m1784 h
    · replace h := (if_neg c1787).symm.trans h
      refine xr_icf 175 (in_101 rfl) rfl c1787 ?_
      refine xr_iload_n (in_101 rfl) rfl ?_
      refine xr_iload_n (in_101 rfl) rfl ?_
      refine xr_ishr (in_101 rfl) ?_
      refine xr_iconst_ _ (in_101 rfl) (show _ = (1 : Int32) by decide) ?_
      refine xr_iand (in_101 rfl) ?_
      refine xr_iconst_ _ (in_101 rfl) (show _ = (1 : Int32) by decide) ?_
      by_cases c1788 : ((a1785 >>> (a1786 &&& 31)) &&& (1 : Int32)) = (1 : Int32)
      · replace h := (if_pos c1788).symm.trans h
        refine xr_icf 169 (in_101 rfl) rfl (fun q => q c1788) ?_
        refine xr_aload_n (in_101 rfl) rfl ?_
        refine xq_getr (in_101 rfl) (fo_101 rfl) (sh_35 n) rfl ?_
        refine xr_iload_n (in_101 rfl) rfl ?_
        obtain ⟨o1789, h⟩ := xg_e h
        refine xq_iald (in_101 rfl) (sh_42 n) o1789 ?_
        refine xr_bipush_ _ (in_101 rfl) (show _ = (60 : Int32) by decide) ?_
        by_cases c1790 : (m1784.1 42 a1786.toNatClampNeg) ≤ (60 : Int32)
        · replace h := (if_pos c1790).symm.trans h
          refine xr_ict 44 (in_101 rfl) rfl c1790 ?_
          refine xr_aload_n (in_101 rfl) rfl ?_
          refine xq_geti (in_101 rfl) (fo_101 rfl) (sh_35 n) rfl ?_
          refine xr_istore_n [some (xv_r 35), some (xv_i a1785), some (xv_i a1786), some (xv_i (m1784.1 35 9)), none, none] (in_101 rfl) (nl_101 rfl) rfl ?_
          refine xr_aload_n (in_101 rfl) rfl ?_
          refine xr_iconst_ _ (in_101 rfl) (show _ = (0 : Int32) by decide) ?_
          refine xq_put (in_101 rfl) (fo_101 rfl) (sh_35 n) rfl (Or.inl rfl) ?_
          obtain ⟨m1791, e1792, h⟩ := xs_e h
          rw [← e1792]
          clear e1792
          refine xr_iconst_ _ (in_101 rfl) (show _ = (0 : Int32) by decide) ?_
          refine xr_istore [some (xv_r 35), some (xv_i a1785), some (xv_i a1786), some (xv_i (m1784.1 35 9)), some (xv_i (0 : Int32)), none] (in_101 rfl) (nl_101 rfl) rfl ?_
          refine mm_join_l57_ok n d (fun m1840 h => ?_) F (0 : Int32) m1791 h
          refine xr_aload_n (in_101 rfl) rfl ?_
          refine xq_geti (in_101 rfl) (fo_101 rfl) (sh_35 n) rfl ?_
          refine xr_bipush_ _ (in_101 rfl) (show _ = (60 : Int32) by decide) ?_
          by_cases c1841 : (m1840.1 35 9) ≤ (60 : Int32)
          · replace h := (if_pos c1841).symm.trans h
            refine xr_ict 137 (in_101 rfl) rfl c1841 ?_
            refine xr_iconst_ _ (in_101 rfl) (show _ = (0 : Int32) by decide) ?_
            refine xr_istore [some (xv_r 35), some (xv_i a1785), some (xv_i a1786), none, some (xv_i (0 : Int32)), none] (in_101 rfl) (nl_101 rfl) rfl ?_
            refine mm_join_l140_ok n d (fun m1851 h => ?_) F (0 : Int32) m1840 h
            refine xr_iinc (a1786 + (1 : Int32)) [some (xv_r 35), some (xv_i a1785), some (xv_i (a1786 + (1 : Int32))), none, none, none] (in_101 rfl) rfl (xi_1 _) (nl_101 rfl) rfl ?_
            refine xr_goto 14 (in_101 rfl) rfl ?_
            exact ih (a1786 + (1 : Int32)) m1851 h
          · replace h := (if_neg c1841).symm.trans h
            refine xr_icf 137 (in_101 rfl) rfl c1841 ?_
            refine xr_iconst_ _ (in_101 rfl) (show _ = (0 : Int32) by decide) ?_
            obtain ⟨rfl, rfl⟩ := Prod.mk.inj (Option.some.inj h)
            exact xr_zret (kd_101) (in_101 rfl) (by decide) (Nat.le_refl _) (Nat.le_refl _) ⟨rfl, rfl⟩
        · replace h := (if_neg c1790).symm.trans h
          refine xr_icf 44 (in_101 rfl) rfl c1790 ?_
          refine xr_iconst_ _ (in_101 rfl) (show _ = (0 : Int32) by decide) ?_
          obtain ⟨rfl, rfl⟩ := Prod.mk.inj (Option.some.inj h)
          exact xr_zret (kd_101) (in_101 rfl) (by decide) (Nat.le_refl _) (Nat.le_refl _) ⟨rfl, rfl⟩
      · replace h := (if_neg c1788).symm.trans h
        refine xr_ict 169 (in_101 rfl) rfl c1788 ?_
        refine xr_iinc (a1786 + (1 : Int32)) [some (xv_r 35), some (xv_i a1785), some (xv_i (a1786 + (1 : Int32))), none, none, none] (in_101 rfl) rfl (xi_1 _) (nl_101 rfl) rfl ?_
        refine xr_goto 14 (in_101 rfl) rfl ?_
        exact ih (a1786 + (1 : Int32)) m1784 h
def mm_join (F : Nat) (a1 : Int32) (m : xm_S) : Option (Int32 × xm_S) := xs_m (xw_i m 35 9 (1 : Int32)) fun m1779 => xg_n (0 : Int32) 61 (xs_m (xw_l m1779 43 (0 : Int32).toNatClampNeg (0 : Int64)) fun m1782 => mm_join_l14 F a1 (fun (m1852 : xm_S) => some ((1 : Int32), m1852)) F (0 : Int32) m1782)
theorem mm_join_ok {xt : Nat → Nat × (Nat → Int32)} (n d : Nat) {F : Nat} {a1 : Int32} {m m' : xm_S} {r : Int32} (h : mm_join F a1 m = some (r, m')) : xm_Run pg xt (d + 1) 101 0 0 (xQ_i (sh n) r m') 0 [some (xv_r 35), some (xv_i a1), none, none, none, none] [] (xq_2 (sh n) m) 0 0 := by
  unfold mm_join at h
  refine xr_aload_n (in_101 rfl) rfl ?_
  refine xr_iconst_ _ (in_101 rfl) (show _ = (1 : Int32) by decide) ?_
  refine xq_put (in_101 rfl) (fo_101 rfl) (sh_35 n) rfl (Or.inl rfl) ?_
  obtain ⟨m1779, e1780, h⟩ := xs_e h
  rw [← e1780]
  clear e1780
  refine xr_aload_n (in_101 rfl) rfl ?_
  refine xq_getr (in_101 rfl) (fo_101 rfl) (sh_35 n) rfl ?_
  refine xr_iconst_ _ (in_101 rfl) (show _ = (0 : Int32) by decide) ?_
  refine xr_lconst_ _ (in_101 rfl) (show _ = (0 : Int64) by decide) ?_
  obtain ⟨o1781, h⟩ := xg_e h
  refine xq_last (in_101 rfl) (sh_43 n) o1781 ?_
  obtain ⟨m1782, e1783, h⟩ := xs_e h
  rw [← e1783]
  clear e1783
  refine xr_iconst_ _ (in_101 rfl) (show _ = (0 : Int32) by decide) ?_
  refine xr_istore_n [some (xv_r 35), some (xv_i a1), some (xv_i (0 : Int32)), none, none, none] (in_101 rfl) (nl_101 rfl) rfl ?_
  refine mm_join_l14_ok n d (fun m1852 h => ?_) F (0 : Int32) m1782 h
  refine xr_iconst_ _ (in_101 rfl) (show _ = (1 : Int32) by decide) ?_
  obtain ⟨rfl, rfl⟩ := Prod.mk.inj (Option.some.inj h)
  exact xr_zret (kd_101) (in_101 rfl) (by decide) (Nat.le_refl _) (Nat.le_refl _) ⟨rfl, rfl⟩
def mm_goFrom_l76 (F : Nat) (a1874 : Int32) (a1875 : Int32) (a1876 : Int32) (a1877 : Int32) (a1878 : Int64) (k : Int32 → xm_S → Option (xm_S)) : Nat → Int32 → xm_S → Option (xm_S)
  | 0, _, _ => none
  | fu + 1, a1879, m1873 => if (m1873.1 35 17) ≤ a1879 then k a1879 m1873 else xg_n a1879 28 (if (lg_cmp ((a1878 >>> ((m1873.1 49 a1879.toNatClampNeg).toInt64 &&& 63)) &&& (1 : Int64)) (0 : Int64)) = 0 then mm_goFrom_l76 F a1874 a1875 a1876 a1877 a1878 k fu (a1879 + (1 : Int32)) m1873 else k a1879 m1873)
theorem mm_goFrom_l76_ok {xt : Nat → Nat × (Nat → Int32)} (n d : Nat) {F : Nat} {a1874 : Int32} {a1875 : Int32} {a1876 : Int32} {a1877 : Int32} {a1878 : Int64} {k : Int32 → xm_S → Option (xm_S)} {m' : xm_S} 
    (hk : ∀ (z8 : Int32) (m : xm_S), k z8 m = some m' → xm_Run pg xt (d + 1) 103 0 0 (xQ_v (sh n) m') 108 [some (xv_r 35), some (xv_i a1874), none, some (xv_i a1875), some (xv_i a1876), some (xv_i a1877), none, none, some (xv_i z8), none, none] [] (xq_2 (sh n) m) 0 0) :
    ∀ (fu : Nat) (a1879 : Int32) (m1873 : xm_S), mm_goFrom_l76 F a1874 a1875 a1876 a1877 a1878 k fu a1879 m1873 = some m' → xm_Run pg xt (d + 1) 103 0 0 (xQ_v (sh n) m') 76 [some (xv_r 35), some (xv_i a1874), none, some (xv_i a1875), some (xv_i a1876), some (xv_i a1877), some (xv_l a1878), none, some (xv_i a1879), none, none] [] (xq_2 (sh n) m1873) 0 0 := by
  intro fu
  induction fu with
  | zero => intro a1879 m1873 h; cases h
  | succ fu ih =>
    intro a1879 m1873 h
    rw [mm_goFrom_l76] at h
    refine xr_iload (in_103 rfl) rfl ?_
    refine xr_aload_n (in_103 rfl) rfl ?_
    refine xq_geti (in_103 rfl) (fo_103 rfl) (sh_35 n) rfl ?_
    by_cases c1880 : (m1873.1 35 17) ≤ a1879
    · replace h := (if_pos c1880).symm.trans h
      refine xr_ict 108 (in_103 rfl) rfl c1880 ?_
      refine xr_forget (loc' := [some (xv_r 35), some (xv_i a1874), none, some (xv_i a1875), some (xv_i a1876), some (xv_i a1877), none, none, some (xv_i a1879), none, none]) (xl_s (xl_s (xl_o (xl_s (xl_s (xl_s (xl_o (xl_o (xl_s (xl_o (xl_o xl_n))))))))))) ?_
      exact hk a1879 m1873 h
    · replace h := (if_neg c1880).symm.trans h
      refine xr_icf 108 (in_103 rfl) rfl c1880 ?_
      refine xr_lload (in_103 rfl) rfl ?_
      refine xr_aload_n (in_103 rfl) rfl ?_
      refine xq_getr (in_103 rfl) (fo_103 rfl) (sh_35 n) rfl ?_
      refine xr_iload (in_103 rfl) rfl ?_
      obtain ⟨o1881, h⟩ := xg_e h
      refine xq_iald (in_103 rfl) (sh_49 n) o1881 ?_
      refine xr_lshr (in_103 rfl) ?_
      refine xr_lconst_ _ (in_103 rfl) (show _ = (1 : Int64) by decide) ?_
      refine xr_land (in_103 rfl) ?_
      refine xr_lconst_ _ (in_103 rfl) (show _ = (0 : Int64) by decide) ?_
      refine xr_lcmp (in_103 rfl) ?_
      by_cases c1882 : (lg_cmp ((a1878 >>> ((m1873.1 49 a1879.toNatClampNeg).toInt64 &&& 63)) &&& (1 : Int64)) (0 : Int64)) = 0
      · replace h := (if_pos c1882).symm.trans h
        refine xr_iff 108 (in_103 rfl) rfl (fun q => q c1882) ?_
        refine xr_iinc (a1879 + (1 : Int32)) [some (xv_r 35), some (xv_i a1874), none, some (xv_i a1875), some (xv_i a1876), some (xv_i a1877), some (xv_l a1878), none, some (xv_i (a1879 + (1 : Int32))), none, none] (in_103 rfl) rfl (xi_1 _) (nl_103 rfl) rfl ?_
        refine xr_goto 76 (in_103 rfl) rfl ?_
        exact ih (a1879 + (1 : Int32)) m1873 h
      · replace h := (if_neg c1882).symm.trans h
        refine xr_ift 108 (in_103 rfl) rfl c1882 ?_
        refine xr_forget (loc' := [some (xv_r 35), some (xv_i a1874), none, some (xv_i a1875), some (xv_i a1876), some (xv_i a1877), none, none, some (xv_i a1879), none, none]) (xl_s (xl_s (xl_o (xl_s (xl_s (xl_s (xl_o (xl_o (xl_s (xl_o (xl_o xl_n))))))))))) ?_
        exact hk a1879 m1873 h
def mm_goFrom_l24 (F : Nat) (a1865 : Int32) (a1866 : Int32) (k : xm_S → Option (xm_S)) : Nat → Int32 → xm_S → Option (xm_S)
  | 0, _, _ => none
  | fu + 1, a1867, m1864 => if (m1864.1 35 9) ≤ a1867 then k m1864 else if (16 : Int32) < (m1864.1 35 11) then k m1864 else xg_n a1867 61 (xg_n a1867 61 (xg_n a1865 17 (mm_goFrom_l76 F a1865 a1866 a1867 (((m1864.2 43 a1867.toNatClampNeg) &&& (268435455 : Int64)).toInt32) ((m1864.2 43 a1867.toNatClampNeg) >>> ((28 : Int32).toInt64 &&& 63)) (fun (x1883 : Int32) (m1884 : xm_S) => xc_m (mm_stateOf F (((m1864.2 43 a1867.toNatClampNeg) &&& (268435455 : Int64)).toInt32) (if (if x1883 < (m1884.1 35 17) then (0 : Int32) else (1 : Int32)) = 0 then x1883 else (0 : Int32)) m1884) fun v1887 m1888 => xg_n a1866 272 (xg_n a1866 272 (xs_m (xw_i m1888 47 a1866.toNatClampNeg ((m1888.1 47 a1866.toNatClampNeg) ||| ((1 : Int32) <<< (v1887 &&& 31)))) fun m1893 => xj_j (fun (x1899 : Int32) => xg_n a1866 272 (xs_m (xw_i m1893 48 a1866.toNatClampNeg x1899) fun m1904 => mm_goFrom_l24 F a1865 a1866 k fu (a1867 + (1 : Int32)) m1904)) fun j1900 => if (if x1883 < (m1884.1 35 17) then (0 : Int32) else (1 : Int32)) = 0 then xg_n a1866 272 (j1900 (m1893.1 48 a1866.toNatClampNeg)) else xg_n a1866 272 (j1900 ((m1893.1 48 a1866.toNatClampNeg) ||| ((1 : Int32) <<< (v1887 &&& 31))))))) F (m1864.1 46 a1865.toNatClampNeg) m1864)))
theorem mm_goFrom_l24_ok {xt : Nat → Nat × (Nat → Int32)} (n d : Nat) {F : Nat} {a1865 : Int32} {a1866 : Int32} {k : xm_S → Option (xm_S)} {m' : xm_S} 
    (hk : ∀ (m : xm_S), k m = some m' → xm_Run pg xt (d + 1) 103 0 0 (xQ_v (sh n) m') 193 [none, none, none, none, none, none, none, none, none, none, none] [] (xq_2 (sh n) m) 0 0) :
    ∀ (fu : Nat) (a1867 : Int32) (m1864 : xm_S), mm_goFrom_l24 F a1865 a1866 k fu a1867 m1864 = some m' → xm_Run pg xt (d + 1) 103 0 0 (xQ_v (sh n) m') 24 [some (xv_r 35), some (xv_i a1865), none, some (xv_i a1866), some (xv_i a1867), none, none, none, none, none, none] [] (xq_2 (sh n) m1864) 0 0 := by
  intro fu
  induction fu with
  | zero => intro a1867 m1864 h; cases h
  | succ fu ih =>
    intro a1867 m1864 h
    rw [mm_goFrom_l24] at h
    refine xr_iload (in_103 rfl) rfl ?_
    refine xr_aload_n (in_103 rfl) rfl ?_
    refine xq_geti (in_103 rfl) (fo_103 rfl) (sh_35 n) rfl ?_
    by_cases c1868 : (m1864.1 35 9) ≤ a1867
    · replace h := (if_pos c1868).symm.trans h
      refine xr_ict 193 (in_103 rfl) rfl c1868 ?_
      refine xr_forget (loc' := [none, none, none, none, none, none, none, none, none, none, none]) (xl_o (xl_o (xl_o (xl_o (xl_o (xl_o (xl_o (xl_o (xl_o (xl_o (xl_o xl_n))))))))))) ?_
      exact hk m1864 h
    · replace h := (if_neg c1868).symm.trans h
      refine xr_icf 193 (in_103 rfl) rfl c1868 ?_
      refine xr_aload_n (in_103 rfl) rfl ?_
      refine xq_geti (in_103 rfl) (fo_103 rfl) (sh_35 n) rfl ?_
      refine xr_bipush_ _ (in_103 rfl) (show _ = (16 : Int32) by decide) ?_
      by_cases c1869 : (16 : Int32) < (m1864.1 35 11)
      · replace h := (if_pos c1869).symm.trans h
        refine xr_ict 193 (in_103 rfl) rfl c1869 ?_
        refine xr_forget (loc' := [none, none, none, none, none, none, none, none, none, none, none]) (xl_o (xl_o (xl_o (xl_o (xl_o (xl_o (xl_o (xl_o (xl_o (xl_o (xl_o xl_n))))))))))) ?_
        exact hk m1864 h
      · replace h := (if_neg c1869).symm.trans h
        refine xr_icf 193 (in_103 rfl) rfl c1869 ?_
        refine xr_aload_n (in_103 rfl) rfl ?_
        refine xq_getr (in_103 rfl) (fo_103 rfl) (sh_35 n) rfl ?_
        refine xr_iload (in_103 rfl) rfl ?_
        obtain ⟨o1870, h⟩ := xg_e h
        refine xq_lald (in_103 rfl) (sh_43 n) o1870 ?_
        refine xr_ldc2 (in_103 rfl) (ko_103 rfl) ?_
        refine xr_land (in_103 rfl) ?_
        refine xr_l2i (in_103 rfl) ?_
        refine xr_istore [some (xv_r 35), some (xv_i a1865), none, some (xv_i a1866), some (xv_i a1867), some (xv_i (((m1864.2 43 a1867.toNatClampNeg) &&& (268435455 : Int64)).toInt32)), none, none, none, none, none] (in_103 rfl) (nl_103 rfl) rfl ?_
        refine xr_aload_n (in_103 rfl) rfl ?_
        refine xq_getr (in_103 rfl) (fo_103 rfl) (sh_35 n) rfl ?_
        refine xr_iload (in_103 rfl) rfl ?_
        obtain ⟨o1871, h⟩ := xg_e h
        refine xq_lald (in_103 rfl) (sh_43 n) o1871 ?_
        refine xr_bipush_ _ (in_103 rfl) (show _ = (28 : Int32) by decide) ?_
        refine xr_lshr (in_103 rfl) ?_
        refine xr_lstore [some (xv_r 35), some (xv_i a1865), none, some (xv_i a1866), some (xv_i a1867), some (xv_i (((m1864.2 43 a1867.toNatClampNeg) &&& (268435455 : Int64)).toInt32)), some (xv_l ((m1864.2 43 a1867.toNatClampNeg) >>> ((28 : Int32).toInt64 &&& 63))), none, none, none, none] (in_103 rfl) (nl_103 rfl) rfl ?_
        refine xr_aload_n (in_103 rfl) rfl ?_
        refine xq_getr (in_103 rfl) (fo_103 rfl) (sh_35 n) rfl ?_
        refine xr_iload_n (in_103 rfl) rfl ?_
        obtain ⟨o1872, h⟩ := xg_e h
        refine xq_iald (in_103 rfl) (sh_46 n) o1872 ?_
        refine xr_istore [some (xv_r 35), some (xv_i a1865), none, some (xv_i a1866), some (xv_i a1867), some (xv_i (((m1864.2 43 a1867.toNatClampNeg) &&& (268435455 : Int64)).toInt32)), some (xv_l ((m1864.2 43 a1867.toNatClampNeg) >>> ((28 : Int32).toInt64 &&& 63))), none, some (xv_i (m1864.1 46 a1865.toNatClampNeg)), none, none] (in_103 rfl) (nl_103 rfl) rfl ?_
        refine mm_goFrom_l76_ok n d (fun x1883 m1884 h => ?_) F (m1864.1 46 a1865.toNatClampNeg) m1864 h
        refine xr_iload (in_103 rfl) rfl ?_
        refine xr_aload_n (in_103 rfl) rfl ?_
        refine xq_geti (in_103 rfl) (fo_103 rfl) (sh_35 n) rfl ?_
        have q1910 : xm_Run pg xt (d + 1) 103 0 0 (xQ_v (sh n) m') 122 [some (xv_r 35), some (xv_i a1865), none, some (xv_i a1866), some (xv_i a1867), some (xv_i (((m1864.2 43 a1867.toNatClampNeg) &&& (268435455 : Int64)).toInt32)), none, none, some (xv_i x1883), none, none] [xv_i (if x1883 < (m1884.1 35 17) then (0 : Int32) else (1 : Int32))] (xq_2 (sh n) m1884) 0 0 := by
          refine xr_istore [some (xv_r 35), some (xv_i a1865), none, some (xv_i a1866), some (xv_i a1867), some (xv_i (((m1864.2 43 a1867.toNatClampNeg) &&& (268435455 : Int64)).toInt32)), none, none, some (xv_i x1883), some (xv_i (if x1883 < (m1884.1 35 17) then (0 : Int32) else (1 : Int32))), none] (in_103 rfl) (nl_103 rfl) rfl ?_
          refine xr_aload_n (in_103 rfl) rfl ?_
          refine xr_iload (in_103 rfl) rfl ?_
          refine xr_iload (in_103 rfl) rfl ?_
          have q1909 : xm_Run pg xt (d + 1) 103 0 0 (xQ_v (sh n) m') 138 [some (xv_r 35), some (xv_i a1865), none, some (xv_i a1866), some (xv_i a1867), none, none, none, none, some (xv_i (if x1883 < (m1884.1 35 17) then (0 : Int32) else (1 : Int32))), none] [xv_i (if (if x1883 < (m1884.1 35 17) then (0 : Int32) else (1 : Int32)) = 0 then x1883 else (0 : Int32)), xv_i (((m1864.2 43 a1867.toNatClampNeg) &&& (268435455 : Int64)).toInt32), xv_r 35] (xq_2 (sh n) m1884) 0 0 := by
            obtain ⟨v1887, m1888, e1889, h⟩ := xc_m_e h
            refine xq_calla [xv_r 35, xv_i (((m1864.2 43 a1867.toNatClampNeg) &&& (268435455 : Int64)).toInt32), xv_i (if (if x1883 < (m1884.1 35 17) then (0 : Int32) else (1 : Int32)) = 0 then x1883 else (0 : Int32))] [] [some (xv_r 35), some (xv_i (((m1864.2 43 a1867.toNatClampNeg) &&& (268435455 : Int64)).toInt32)), some (xv_i (if (if x1883 < (m1884.1 35 17) then (0 : Int32) else (1 : Int32)) = 0 then x1883 else (0 : Int32))), none] (xk_V (in_103 rfl) (sh_35 n)) (cl_103 rfl) rfl rfl rfl rfl (mm_stateOf_ok n d e1889) ?_
            refine xr_istore [some (xv_r 35), some (xv_i a1865), none, some (xv_i a1866), some (xv_i a1867), none, none, none, none, some (xv_i (if x1883 < (m1884.1 35 17) then (0 : Int32) else (1 : Int32))), some (xv_i v1887)] (in_103 rfl) (nl_103 rfl) rfl ?_
            refine xr_aload_n (in_103 rfl) rfl ?_
            refine xq_getr (in_103 rfl) (fo_103 rfl) (sh_35 n) rfl ?_
            refine xr_iload_n (in_103 rfl) rfl ?_
            refine xr_dup2 (in_103 rfl) rfl rfl ?_
            obtain ⟨o1891, h⟩ := xg_e h
            refine xq_iald (in_103 rfl) (sh_47 n) o1891 ?_
            refine xr_iconst_ _ (in_103 rfl) (show _ = (1 : Int32) by decide) ?_
            refine xr_iload (in_103 rfl) rfl ?_
            refine xr_ishl (in_103 rfl) ?_
            refine xr_ior (in_103 rfl) ?_
            obtain ⟨o1892, h⟩ := xg_e h
            refine xq_iast (in_103 rfl) (sh_47 n) o1892 ?_
            obtain ⟨m1893, e1894, h⟩ := xs_e h
            rw [← e1894]
            clear e1894
            refine xr_aload_n (in_103 rfl) rfl ?_
            refine xq_getr (in_103 rfl) (fo_103 rfl) (sh_35 n) rfl ?_
            refine xr_iload_n (in_103 rfl) rfl ?_
            refine xr_iload (in_103 rfl) rfl ?_
            obtain ⟨j1900, e1901, h⟩ := xj_e h
            have q1902 : ∀ (x1899 : Int32), j1900 x1899 = some m' → xm_Run pg xt (d + 1) 103 0 0 (xQ_v (sh n) m') 186 [some (xv_r 35), some (xv_i a1865), none, some (xv_i a1866), some (xv_i a1867), none, none, none, none, none, none] [xv_i x1899, xv_i a1866, xv_r 48] (xq_2 (sh n) m1893) 0 0 := by
              intro x1899 h
              rw [e1901] at h
              obtain ⟨o1903, h⟩ := xg_e h
              refine xq_iast (in_103 rfl) (sh_48 n) o1903 ?_
              obtain ⟨m1904, e1905, h⟩ := xs_e h
              rw [← e1905]
              clear e1905
              refine xr_iinc (a1867 + (1 : Int32)) [some (xv_r 35), some (xv_i a1865), none, some (xv_i a1866), some (xv_i (a1867 + (1 : Int32))), none, none, none, none, none, none] (in_103 rfl) rfl (xi_1 _) (nl_103 rfl) rfl ?_
              refine xr_goto 24 (in_103 rfl) rfl ?_
              exact ih (a1867 + (1 : Int32)) m1904 h
            clear e1901
            by_cases c1906 : (if x1883 < (m1884.1 35 17) then (0 : Int32) else (1 : Int32)) = 0
            · replace h := (if_pos c1906).symm.trans h
              refine xr_ift 180 (in_103 rfl) rfl c1906 ?_
              refine xr_aload_n (in_103 rfl) rfl ?_
              refine xq_getr (in_103 rfl) (fo_103 rfl) (sh_35 n) rfl ?_
              refine xr_iload_n (in_103 rfl) rfl ?_
              obtain ⟨o1907, h⟩ := xg_e h
              refine xq_iald (in_103 rfl) (sh_48 n) o1907 ?_
              refine xr_forget (loc' := [some (xv_r 35), some (xv_i a1865), none, some (xv_i a1866), some (xv_i a1867), none, none, none, none, none, none]) (xl_s (xl_s (xl_o (xl_s (xl_s (xl_o (xl_o (xl_o (xl_o (xl_o (xl_o xl_n))))))))))) ?_
              exact q1902 (m1893.1 48 a1866.toNatClampNeg) h
            · replace h := (if_neg c1906).symm.trans h
              refine xr_iff 180 (in_103 rfl) rfl c1906 ?_
              refine xr_aload_n (in_103 rfl) rfl ?_
              refine xq_getr (in_103 rfl) (fo_103 rfl) (sh_35 n) rfl ?_
              refine xr_iload_n (in_103 rfl) rfl ?_
              obtain ⟨o1908, h⟩ := xg_e h
              refine xq_iald (in_103 rfl) (sh_48 n) o1908 ?_
              refine xr_iconst_ _ (in_103 rfl) (show _ = (1 : Int32) by decide) ?_
              refine xr_iload (in_103 rfl) rfl ?_
              refine xr_ishl (in_103 rfl) ?_
              refine xr_ior (in_103 rfl) ?_
              refine xr_goto 186 (in_103 rfl) rfl ?_
              refine xr_forget (loc' := [some (xv_r 35), some (xv_i a1865), none, some (xv_i a1866), some (xv_i a1867), none, none, none, none, none, none]) (xl_s (xl_s (xl_o (xl_s (xl_s (xl_o (xl_o (xl_o (xl_o (xl_o (xl_o xl_n))))))))))) ?_
              exact q1902 ((m1893.1 48 a1866.toNatClampNeg) ||| ((1 : Int32) <<< (v1887 &&& 31))) h
          by_cases c1886 : (if x1883 < (m1884.1 35 17) then (0 : Int32) else (1 : Int32)) = 0
          · refine xr_ift 136 (in_103 rfl) rfl c1886 ?_
            refine xr_iload (in_103 rfl) rfl ?_
            refine xr_forget (loc' := [some (xv_r 35), some (xv_i a1865), none, some (xv_i a1866), some (xv_i a1867), none, none, none, none, some (xv_i (if x1883 < (m1884.1 35 17) then (0 : Int32) else (1 : Int32))), none]) (xl_s (xl_s (xl_o (xl_s (xl_s (xl_o (xl_o (xl_o (xl_o (xl_s (xl_o xl_n))))))))))) ?_
            rw [show (if (if x1883 < (m1884.1 35 17) then (0 : Int32) else (1 : Int32)) = 0 then x1883 else (0 : Int32)) = x1883 by rw [if_pos c1886]] at q1909
            exact q1909
          · refine xr_iff 136 (in_103 rfl) rfl c1886 ?_
            refine xr_iconst_ _ (in_103 rfl) (show _ = (0 : Int32) by decide) ?_
            refine xr_goto 138 (in_103 rfl) rfl ?_
            refine xr_forget (loc' := [some (xv_r 35), some (xv_i a1865), none, some (xv_i a1866), some (xv_i a1867), none, none, none, none, some (xv_i (if x1883 < (m1884.1 35 17) then (0 : Int32) else (1 : Int32))), none]) (xl_s (xl_s (xl_o (xl_s (xl_s (xl_o (xl_o (xl_o (xl_o (xl_s (xl_o xl_n))))))))))) ?_
            rw [show (if (if x1883 < (m1884.1 35 17) then (0 : Int32) else (1 : Int32)) = 0 then x1883 else (0 : Int32)) = (0 : Int32) by rw [if_neg c1886]] at q1909
            exact q1909
        by_cases c1885 : x1883 < (m1884.1 35 17)
        · refine xr_ict 121 (in_103 rfl) rfl c1885 ?_
          refine xr_iconst_ _ (in_103 rfl) (show _ = (0 : Int32) by decide) ?_
          rw [show (if x1883 < (m1884.1 35 17) then (0 : Int32) else (1 : Int32)) = (0 : Int32) by rw [if_pos c1885]] at q1910
          exact q1910
        · refine xr_icf 121 (in_103 rfl) rfl c1885 ?_
          refine xr_iconst_ _ (in_103 rfl) (show _ = (1 : Int32) by decide) ?_
          refine xr_goto 122 (in_103 rfl) rfl ?_
          rw [show (if x1883 < (m1884.1 35 17) then (0 : Int32) else (1 : Int32)) = (1 : Int32) by rw [if_neg c1885]] at q1910
          exact q1910
def mm_goFrom (F : Nat) (a1 : Int32) (a2 : Int32) (m : xm_S) : Option (xm_S) := xg_n (((16 : Int32) * a1) + a2) 272 (xs_m (xw_i m 47 (((16 : Int32) * a1) + a2).toNatClampNeg (0 : Int32)) fun m1859 => xg_n (((16 : Int32) * a1) + a2) 272 (xs_m (xw_i m1859 48 (((16 : Int32) * a1) + a2).toNatClampNeg (0 : Int32)) fun m1862 => mm_goFrom_l24 F a1 (((16 : Int32) * a1) + a2) (fun (m1911 : xm_S) => some m1911) F (0 : Int32) m1862))
theorem mm_goFrom_ok {xt : Nat → Nat × (Nat → Int32)} (n d : Nat) {F : Nat} {a1 : Int32} {a2 : Int32} {m m' : xm_S} (h : mm_goFrom F a1 a2 m = some m') : xm_Run pg xt (d + 1) 103 0 0 (xQ_v (sh n) m') 0 [some (xv_r 35), some (xv_i a1), some (xv_i a2), none, none, none, none, none, none, none, none] [] (xq_2 (sh n) m) 0 0 := by
  unfold mm_goFrom at h
  refine xr_bipush_ _ (in_103 rfl) (show _ = (16 : Int32) by decide) ?_
  refine xr_iload_n (in_103 rfl) rfl ?_
  refine xr_imul (in_103 rfl) ?_
  refine xr_iload_n (in_103 rfl) rfl ?_
  refine xr_iadd (in_103 rfl) ?_
  refine xr_istore_n [some (xv_r 35), some (xv_i a1), some (xv_i a2), some (xv_i (((16 : Int32) * a1) + a2)), none, none, none, none, none, none, none] (in_103 rfl) (nl_103 rfl) rfl ?_
  refine xr_aload_n (in_103 rfl) rfl ?_
  refine xq_getr (in_103 rfl) (fo_103 rfl) (sh_35 n) rfl ?_
  refine xr_iload_n (in_103 rfl) rfl ?_
  refine xr_iconst_ _ (in_103 rfl) (show _ = (0 : Int32) by decide) ?_
  obtain ⟨o1858, h⟩ := xg_e h
  refine xq_iast (in_103 rfl) (sh_47 n) o1858 ?_
  obtain ⟨m1859, e1860, h⟩ := xs_e h
  rw [← e1860]
  clear e1860
  refine xr_aload_n (in_103 rfl) rfl ?_
  refine xq_getr (in_103 rfl) (fo_103 rfl) (sh_35 n) rfl ?_
  refine xr_iload_n (in_103 rfl) rfl ?_
  refine xr_iconst_ _ (in_103 rfl) (show _ = (0 : Int32) by decide) ?_
  obtain ⟨o1861, h⟩ := xg_e h
  refine xq_iast (in_103 rfl) (sh_48 n) o1861 ?_
  obtain ⟨m1862, e1863, h⟩ := xs_e h
  rw [← e1863]
  clear e1863
  refine xr_iconst_ _ (in_103 rfl) (show _ = (0 : Int32) by decide) ?_
  refine xr_istore [some (xv_r 35), some (xv_i a1), some (xv_i a2), some (xv_i (((16 : Int32) * a1) + a2)), some (xv_i (0 : Int32)), none, none, none, none, none, none] (in_103 rfl) (nl_103 rfl) rfl ?_
  refine xr_forget (loc' := [some (xv_r 35), some (xv_i a1), none, some (xv_i (((16 : Int32) * a1) + a2)), some (xv_i (0 : Int32)), none, none, none, none, none, none]) (xl_s (xl_s (xl_o (xl_s (xl_s (xl_o (xl_o (xl_o (xl_o (xl_o (xl_o xl_n))))))))))) ?_
  refine mm_goFrom_l24_ok n d (fun m1911 h => ?_) F (0 : Int32) m1862 h
  obtain rfl := Option.some.inj h
  exact xr_vret (kd_103) (in_103 rfl) (Nat.le_refl _) (Nat.le_refl _) ⟨rfl, rfl⟩
def mm_automaton_l2 (F : Nat) (a1689 : Int32) (k : xm_S → Option (Int32 × xm_S)) : Nat → Int32 → xm_S → Option (Int32 × xm_S)
  | 0, _, _ => none
  | fu + 1, a1690, m1688 => if (16 : Int32) ≤ a1690 then k m1688 else xc_v (mm_waysUpTo F a1689 a1690 m1688) fun m1693 => xg_n a1689 28 (if (m1693.1 42 a1689.toNatClampNeg) ≤ (60 : Int32) then mm_automaton_l2 F a1689 k fu (a1690 + (1 : Int32)) m1693 else some ((0 : Int32), m1693))
theorem mm_automaton_l2_ok {xt : Nat → Nat × (Nat → Int32)} (n d : Nat) {F : Nat} {a1689 : Int32} {k : xm_S → Option (Int32 × xm_S)} {r : Int32} {m' : xm_S} 
    (hk : ∀ (m : xm_S), k m = some (r, m') → xm_Run pg xt (d + 4) 98 0 0 (xQ_i (sh n) r m') 33 [some (xv_r 35), some (xv_i a1689), none, none, none] [] (xq_2 (sh n) m) 0 0) :
    ∀ (fu : Nat) (a1690 : Int32) (m1688 : xm_S), mm_automaton_l2 F a1689 k fu a1690 m1688 = some (r, m') → xm_Run pg xt (d + 4) 98 0 0 (xQ_i (sh n) r m') 2 [some (xv_r 35), some (xv_i a1689), some (xv_i a1690), none, none] [] (xq_2 (sh n) m1688) 0 0 := by
  intro fu
  induction fu with
  | zero => intro a1690 m1688 h; cases h
  | succ fu ih =>
    intro a1690 m1688 h
    rw [mm_automaton_l2] at h
    refine xr_iload_n (in_98 rfl) rfl ?_
    refine xr_bipush_ _ (in_98 rfl) (show _ = (16 : Int32) by decide) ?_
    by_cases c1691 : (16 : Int32) ≤ a1690
    · replace h := (if_pos c1691).symm.trans h
      refine xr_ict 33 (in_98 rfl) rfl c1691 ?_
      refine xr_forget (loc' := [some (xv_r 35), some (xv_i a1689), none, none, none]) (xl_s (xl_s (xl_o (xl_o (xl_o xl_n))))) ?_
      exact hk m1688 h
    · replace h := (if_neg c1691).symm.trans h
      refine xr_icf 33 (in_98 rfl) rfl c1691 ?_
      refine xr_aload_n (in_98 rfl) rfl ?_
      refine xr_iload_n (in_98 rfl) rfl ?_
      refine xr_iload_n (in_98 rfl) rfl ?_
      obtain ⟨m1693, e1694, h⟩ := xc_v_e h
      refine xq_callv [xv_r 35, xv_i a1689, xv_i a1690] [] [some (xv_r 35), some (xv_i a1689), some (xv_i a1690), none] (xk_V (in_98 rfl) (sh_35 n)) (cl_98 rfl) rfl rfl rfl rfl (mm_waysUpTo_ok n d e1694) ?_
      refine xr_aload_n (in_98 rfl) rfl ?_
      refine xq_getr (in_98 rfl) (fo_98 rfl) (sh_35 n) rfl ?_
      refine xr_iload_n (in_98 rfl) rfl ?_
      obtain ⟨o1696, h⟩ := xg_e h
      refine xq_iald (in_98 rfl) (sh_42 n) o1696 ?_
      refine xr_bipush_ _ (in_98 rfl) (show _ = (60 : Int32) by decide) ?_
      by_cases c1697 : (m1693.1 42 a1689.toNatClampNeg) ≤ (60 : Int32)
      · replace h := (if_pos c1697).symm.trans h
        refine xr_ict 27 (in_98 rfl) rfl c1697 ?_
        refine xr_iinc (a1690 + (1 : Int32)) [some (xv_r 35), some (xv_i a1689), some (xv_i (a1690 + (1 : Int32))), none, none] (in_98 rfl) rfl (xi_1 _) (nl_98 rfl) rfl ?_
        refine xr_goto 2 (in_98 rfl) rfl ?_
        exact ih (a1690 + (1 : Int32)) m1693 h
      · replace h := (if_neg c1697).symm.trans h
        refine xr_icf 27 (in_98 rfl) rfl c1697 ?_
        refine xr_iconst_ _ (in_98 rfl) (show _ = (0 : Int32) by decide) ?_
        obtain ⟨rfl, rfl⟩ := Prod.mk.inj (Option.some.inj h)
        exact xr_zret (kd_98) (in_98 rfl) (by decide) (Nat.le_refl _) (Nat.le_refl _) ⟨rfl, rfl⟩
def mm_automaton_l65 (F : Nat) (a1771 : Int32) (k : xm_S → Option (Int32 × xm_S)) : Nat → Int32 → xm_S → Option (Int32 × xm_S)
  | 0, _, _ => none
  | fu + 1, a1772, m1770 => if (16 : Int32) ≤ a1772 then k m1770 else xc_v (mm_waysUpTo F ((m1770.1 35 0) - (1 : Int32)) a1772 m1770) fun m1775 => xg_n a1771 17 (xc_m (mm_join F (m1775.1 45 a1771.toNatClampNeg) m1775) fun v1853 m1854 => if v1853 = 0 then some ((0 : Int32), m1854) else xc_v (mm_goFrom F a1771 a1772 m1854) fun m1913 => if (m1913.1 35 11) ≤ (16 : Int32) then mm_automaton_l65 F a1771 k fu (a1772 + (1 : Int32)) m1913 else some ((0 : Int32), m1913))
theorem mm_automaton_l65_ok {xt : Nat → Nat × (Nat → Int32)} (n d : Nat) {F : Nat} {a1771 : Int32} {k : xm_S → Option (Int32 × xm_S)} {r : Int32} {m' : xm_S} 
    (hk : ∀ (m : xm_S), k m = some (r, m') → xm_Run pg xt (d + 4) 98 0 0 (xQ_i (sh n) r m') 123 [some (xv_r 35), none, none, some (xv_i a1771), none] [] (xq_2 (sh n) m) 0 0) :
    ∀ (fu : Nat) (a1772 : Int32) (m1770 : xm_S), mm_automaton_l65 F a1771 k fu a1772 m1770 = some (r, m') → xm_Run pg xt (d + 4) 98 0 0 (xQ_i (sh n) r m') 65 [some (xv_r 35), none, none, some (xv_i a1771), some (xv_i a1772)] [] (xq_2 (sh n) m1770) 0 0 := by
  intro fu
  induction fu with
  | zero => intro a1772 m1770 h; cases h
  | succ fu ih =>
    intro a1772 m1770 h
    rw [mm_automaton_l65] at h
    refine xr_iload (in_98 rfl) rfl ?_
    refine xr_bipush_ _ (in_98 rfl) (show _ = (16 : Int32) by decide) ?_
    by_cases c1773 : (16 : Int32) ≤ a1772
    · replace h := (if_pos c1773).symm.trans h
      refine xr_ict 123 (in_98 rfl) rfl c1773 ?_
      refine xr_forget (loc' := [some (xv_r 35), none, none, some (xv_i a1771), none]) (xl_s (xl_o (xl_o (xl_s (xl_o xl_n))))) ?_
      exact hk m1770 h
    · replace h := (if_neg c1773).symm.trans h
      refine xr_icf 123 (in_98 rfl) rfl c1773 ?_
      refine xr_aload_n (in_98 rfl) rfl ?_
      refine xr_aload_n (in_98 rfl) rfl ?_
      refine xq_geti (in_98 rfl) (fo_98 rfl) (sh_35 n) rfl ?_
      refine xr_iconst_ _ (in_98 rfl) (show _ = (1 : Int32) by decide) ?_
      refine xr_isub (in_98 rfl) ?_
      refine xr_iload (in_98 rfl) rfl ?_
      obtain ⟨m1775, e1776, h⟩ := xc_v_e h
      refine xq_callv [xv_r 35, xv_i ((m1770.1 35 0) - (1 : Int32)), xv_i a1772] [] [some (xv_r 35), some (xv_i ((m1770.1 35 0) - (1 : Int32))), some (xv_i a1772), none] (xk_V (in_98 rfl) (sh_35 n)) (cl_98 rfl) rfl rfl rfl rfl (mm_waysUpTo_ok n d e1776) ?_
      refine xr_aload_n (in_98 rfl) rfl ?_
      refine xr_aload_n (in_98 rfl) rfl ?_
      refine xq_getr (in_98 rfl) (fo_98 rfl) (sh_35 n) rfl ?_
      refine xr_iload_n (in_98 rfl) rfl ?_
      obtain ⟨o1778, h⟩ := xg_e h
      refine xq_iald (in_98 rfl) (sh_45 n) o1778 ?_
      obtain ⟨v1853, m1854, e1855, h⟩ := xc_m_e h
      refine xq_calla [xv_r 35, xv_i (m1775.1 45 a1771.toNatClampNeg)] [] [some (xv_r 35), some (xv_i (m1775.1 45 a1771.toNatClampNeg)), none, none, none, none] (xk_V (in_98 rfl) (sh_35 n)) (cl_98 rfl) rfl rfl rfl rfl (mm_join_ok n (d + 2) e1855) ?_
      by_cases c1857 : v1853 = 0
      · replace h := (if_pos c1857).symm.trans h
        refine xr_iff 99 (in_98 rfl) rfl (fun q => q c1857) ?_
        refine xr_iconst_ _ (in_98 rfl) (show _ = (0 : Int32) by decide) ?_
        obtain ⟨rfl, rfl⟩ := Prod.mk.inj (Option.some.inj h)
        exact xr_zret (kd_98) (in_98 rfl) (by decide) (Nat.le_refl _) (Nat.le_refl _) ⟨rfl, rfl⟩
      · replace h := (if_neg c1857).symm.trans h
        refine xr_ift 99 (in_98 rfl) rfl c1857 ?_
        refine xr_aload_n (in_98 rfl) rfl ?_
        refine xr_iload_n (in_98 rfl) rfl ?_
        refine xr_iload (in_98 rfl) rfl ?_
        obtain ⟨m1913, e1914, h⟩ := xc_v_e h
        refine xq_callv [xv_r 35, xv_i a1771, xv_i a1772] [] [some (xv_r 35), some (xv_i a1771), some (xv_i a1772), none, none, none, none, none, none, none, none] (xk_V (in_98 rfl) (sh_35 n)) (cl_98 rfl) rfl rfl rfl rfl (mm_goFrom_ok n (d + 2) e1914) ?_
        refine xr_aload_n (in_98 rfl) rfl ?_
        refine xq_geti (in_98 rfl) (fo_98 rfl) (sh_35 n) rfl ?_
        refine xr_bipush_ _ (in_98 rfl) (show _ = (16 : Int32) by decide) ?_
        by_cases c1916 : (m1913.1 35 11) ≤ (16 : Int32)
        · replace h := (if_pos c1916).symm.trans h
          refine xr_ict 117 (in_98 rfl) rfl c1916 ?_
          refine xr_iinc (a1772 + (1 : Int32)) [some (xv_r 35), none, none, some (xv_i a1771), some (xv_i (a1772 + (1 : Int32)))] (in_98 rfl) rfl (xi_1 _) (nl_98 rfl) rfl ?_
          refine xr_goto 65 (in_98 rfl) rfl ?_
          exact ih (a1772 + (1 : Int32)) m1913 h
        · replace h := (if_neg c1916).symm.trans h
          refine xr_icf 117 (in_98 rfl) rfl c1916 ?_
          refine xr_iconst_ _ (in_98 rfl) (show _ = (0 : Int32) by decide) ?_
          obtain ⟨rfl, rfl⟩ := Prod.mk.inj (Option.some.inj h)
          exact xr_zret (kd_98) (in_98 rfl) (by decide) (Nat.le_refl _) (Nat.le_refl _) ⟨rfl, rfl⟩
def mm_automaton_l54 (F : Nat) (k : xm_S → Option (Int32 × xm_S)) : Nat → Int32 → xm_S → Option (Int32 × xm_S)
  | 0, _, _ => none
  | fu + 1, a1768, m1767 => if (m1767.1 35 11) ≤ a1768 then k m1767 else mm_automaton_l65 F a1768 (fun (m1917 : xm_S) => mm_automaton_l54 F k fu (a1768 + (1 : Int32)) m1917) F (0 : Int32) m1767
theorem mm_automaton_l54_ok {xt : Nat → Nat × (Nat → Int32)} (n d : Nat) {F : Nat} {k : xm_S → Option (Int32 × xm_S)} {r : Int32} {m' : xm_S} 
    (hk : ∀ (m : xm_S), k m = some (r, m') → xm_Run pg xt (d + 4) 98 0 0 (xQ_i (sh n) r m') 129 [none, none, none, none, none] [] (xq_2 (sh n) m) 0 0) :
    ∀ (fu : Nat) (a1768 : Int32) (m1767 : xm_S), mm_automaton_l54 F k fu a1768 m1767 = some (r, m') → xm_Run pg xt (d + 4) 98 0 0 (xQ_i (sh n) r m') 54 [some (xv_r 35), none, none, some (xv_i a1768), none] [] (xq_2 (sh n) m1767) 0 0 := by
  intro fu
  induction fu with
  | zero => intro a1768 m1767 h; cases h
  | succ fu ih =>
    intro a1768 m1767 h
    rw [mm_automaton_l54] at h
    refine xr_iload_n (in_98 rfl) rfl ?_
    refine xr_aload_n (in_98 rfl) rfl ?_
    refine xq_geti (in_98 rfl) (fo_98 rfl) (sh_35 n) rfl ?_
    by_cases c1769 : (m1767.1 35 11) ≤ a1768
    · replace h := (if_pos c1769).symm.trans h
      refine xr_ict 129 (in_98 rfl) rfl c1769 ?_
      refine xr_forget (loc' := [none, none, none, none, none]) (xl_o (xl_o (xl_o (xl_o (xl_o xl_n))))) ?_
      exact hk m1767 h
    · replace h := (if_neg c1769).symm.trans h
      refine xr_icf 129 (in_98 rfl) rfl c1769 ?_
      refine xr_iconst_ _ (in_98 rfl) (show _ = (0 : Int32) by decide) ?_
      refine xr_istore [some (xv_r 35), none, none, some (xv_i a1768), some (xv_i (0 : Int32))] (in_98 rfl) (nl_98 rfl) rfl ?_
      refine mm_automaton_l65_ok n d (fun m1917 h => ?_) F (0 : Int32) m1767 h
      refine xr_iinc (a1768 + (1 : Int32)) [some (xv_r 35), none, none, some (xv_i (a1768 + (1 : Int32))), none] (in_98 rfl) rfl (xi_1 _) (nl_98 rfl) rfl ?_
      refine xr_goto 54 (in_98 rfl) rfl ?_
      exact ih (a1768 + (1 : Int32)) m1917 h
def mm_automaton (F : Nat) (a1 : Int32) (m : xm_S) : Option (Int32 × xm_S) := mm_automaton_l2 F a1 (fun (m1698 : xm_S) => xc_v (mm_findUntils F a1 m1698) fun m1740 => xs_m (xw_i m1740 35 11 (0 : Int32)) fun m1743 => xc_m (mm_stateOf F ((1 : Int32) <<< (a1 &&& 31)) (0 : Int32) m1743) fun v1763 m1764 => mm_automaton_l54 F (fun (m1918 : xm_S) => some ((1 : Int32), m1918)) F v1763 m1764) F (0 : Int32) m
theorem mm_automaton_ok {xt : Nat → Nat × (Nat → Int32)} (n d : Nat) {F : Nat} {a1 : Int32} {m m' : xm_S} {r : Int32} (h : mm_automaton F a1 m = some (r, m')) : xm_Run pg xt (d + 4) 98 0 0 (xQ_i (sh n) r m') 0 [some (xv_r 35), some (xv_i a1), none, none, none] [] (xq_2 (sh n) m) 0 0 := by
  unfold mm_automaton at h
  refine xr_iconst_ _ (in_98 rfl) (show _ = (0 : Int32) by decide) ?_
  refine xr_istore_n [some (xv_r 35), some (xv_i a1), some (xv_i (0 : Int32)), none, none] (in_98 rfl) (nl_98 rfl) rfl ?_
  refine mm_automaton_l2_ok n d (fun m1698 h => ?_) F (0 : Int32) m h
  refine xr_aload_n (in_98 rfl) rfl ?_
  refine xr_iload_n (in_98 rfl) rfl ?_
  obtain ⟨m1740, e1741, h⟩ := xc_v_e h
  refine xq_callv [xv_r 35, xv_i a1] [] [some (xv_r 35), some (xv_i a1), none, none] (xk_V (in_98 rfl) (sh_35 n)) (cl_98 rfl) rfl rfl rfl rfl (mm_findUntils_ok n (d + 2) e1741) ?_
  refine xr_aload_n (in_98 rfl) rfl ?_
  refine xr_iconst_ _ (in_98 rfl) (show _ = (0 : Int32) by decide) ?_
  refine xq_put (in_98 rfl) (fo_98 rfl) (sh_35 n) rfl (Or.inl rfl) ?_
  obtain ⟨m1743, e1744, h⟩ := xs_e h
  rw [← e1744]
  clear e1744
  refine xr_aload_n (in_98 rfl) rfl ?_
  refine xr_iconst_ _ (in_98 rfl) (show _ = (1 : Int32) by decide) ?_
  refine xr_iload_n (in_98 rfl) rfl ?_
  refine xr_ishl (in_98 rfl) ?_
  refine xr_iconst_ _ (in_98 rfl) (show _ = (0 : Int32) by decide) ?_
  obtain ⟨v1763, m1764, e1765, h⟩ := xc_m_e h
  refine xq_calla [xv_r 35, xv_i ((1 : Int32) <<< (a1 &&& 31)), xv_i (0 : Int32)] [] [some (xv_r 35), some (xv_i ((1 : Int32) <<< (a1 &&& 31))), some (xv_i (0 : Int32)), none] (xk_V (in_98 rfl) (sh_35 n)) (cl_98 rfl) rfl rfl rfl rfl (mm_stateOf_ok n (d + 3) e1765) ?_
  refine xr_istore_n [some (xv_r 35), some (xv_i a1), some (xv_i v1763), none, none] (in_98 rfl) (nl_98 rfl) rfl ?_
  refine xr_iload_n (in_98 rfl) rfl ?_
  refine xr_istore_n [some (xv_r 35), some (xv_i a1), some (xv_i v1763), some (xv_i v1763), none] (in_98 rfl) (nl_98 rfl) rfl ?_
  refine xr_forget (loc' := [some (xv_r 35), none, none, some (xv_i v1763), none]) (xl_s (xl_o (xl_o (xl_s (xl_o xl_n))))) ?_
  refine mm_automaton_l54_ok n d (fun m1918 h => ?_) F v1763 m1764 h
  refine xr_iconst_ _ (in_98 rfl) (show _ = (1 : Int32) by decide) ?_
  obtain ⟨rfl, rfl⟩ := Prod.mk.inj (Option.some.inj h)
  exact xr_zret (kd_98) (in_98 rfl) (by decide) (Nat.le_refl _) (Nat.le_refl _) ⟨rfl, rfl⟩
def mm_states (F : Nat) (a1 : Int32) (m : xm_S) : Option (Int32 × xm_S) := if (mm_isFormula a1 m) = 0 then some ((-1 : Int32), m) else xc_m (mm_automaton F a1 m) fun v1920 m1921 => if v1920 = 0 then some ((-2 : Int32), m1921) else some (m1921.1 35 11, m1921)
theorem mm_states_ok {xt : Nat → Nat × (Nat → Int32)} (n d : Nat) {F : Nat} {a1 : Int32} {m m' : xm_S} {r : Int32} (h : mm_states F a1 m = some (r, m')) : xm_Run pg xt (d + 5) 97 0 0 (xQ_i (sh n) r m') 0 [some (xv_r 35), some (xv_i a1)] [] (xq_2 (sh n) m) 0 0 := by
  unfold mm_states at h
  refine xr_aload_n (in_97 rfl) rfl ?_
  refine xr_iload_n (in_97 rfl) rfl ?_
  refine xq_calla [xv_r 35, xv_i a1] [] [some (xv_r 35), some (xv_i a1)] (xk_V (in_97 rfl) (sh_35 n)) (cl_97 rfl) rfl rfl rfl rfl (mm_isFormula_ok n (d + 4) rfl) ?_
  by_cases c1919 : (mm_isFormula a1 m) = 0
  · replace h := (if_pos c1919).symm.trans h
    refine xr_iff 10 (in_97 rfl) rfl (fun q => q c1919) ?_
    refine xr_iconst_ _ (in_97 rfl) (show _ = (-1 : Int32) by decide) ?_
    obtain ⟨rfl, rfl⟩ := Prod.mk.inj (Option.some.inj h)
    exact xr_iret (kd_97) (in_97 rfl) (Nat.le_refl _) (Nat.le_refl _) ⟨rfl, rfl⟩
  · replace h := (if_neg c1919).symm.trans h
    refine xr_ift 10 (in_97 rfl) rfl c1919 ?_
    refine xr_aload_n (in_97 rfl) rfl ?_
    refine xr_iload_n (in_97 rfl) rfl ?_
    obtain ⟨v1920, m1921, e1922, h⟩ := xc_m_e h
    refine xq_calla [xv_r 35, xv_i a1] [] [some (xv_r 35), some (xv_i a1), none, none, none] (xk_V (in_97 rfl) (sh_35 n)) (cl_97 rfl) rfl rfl rfl rfl (mm_automaton_ok n d e1922) ?_
    by_cases c1924 : v1920 = 0
    · replace h := (if_pos c1924).symm.trans h
      refine xr_ift 25 (in_97 rfl) rfl c1924 ?_
      refine xr_bipush_ _ (in_97 rfl) (show _ = (-2 : Int32) by decide) ?_
      obtain ⟨rfl, rfl⟩ := Prod.mk.inj (Option.some.inj h)
      exact xr_iret (kd_97) (in_97 rfl) (Nat.le_refl _) (Nat.le_refl _) ⟨rfl, rfl⟩
    · replace h := (if_neg c1924).symm.trans h
      refine xr_iff 25 (in_97 rfl) rfl c1924 ?_
      refine xr_aload_n (in_97 rfl) rfl ?_
      refine xq_geti (in_97 rfl) (fo_97 rfl) (sh_35 n) rfl ?_
      refine xr_goto 27 (in_97 rfl) rfl ?_
      obtain ⟨rfl, rfl⟩ := Prod.mk.inj (Option.some.inj h)
      exact xr_iret (kd_97) (in_97 rfl) (Nat.le_refl _) (Nat.le_refl _) ⟨rfl, rfl⟩
def mm_positionOf_l2 (F : Nat) (a1952 : Int64) (k : xm_S → Option (Int32 × xm_S)) : Nat → Int32 → xm_S → Option (Int32 × xm_S)
  | 0, _, _ => none
  | fu + 1, a1953, m1951 => if (m1951.1 35 18) ≤ a1953 then k m1951 else xg_n a1953 101 (if (lg_cmp (m1951.2 50 a1953.toNatClampNeg) a1952) = 0 then some (a1953, m1951) else mm_positionOf_l2 F a1952 k fu (a1953 + (1 : Int32)) m1951)
theorem mm_positionOf_l2_ok {xt : Nat → Nat × (Nat → Int32)} (n d : Nat) {F : Nat} {a1952 : Int64} {k : xm_S → Option (Int32 × xm_S)} {r : Int32} {m' : xm_S} 
    (hk : ∀ (m : xm_S), k m = some (r, m') → xm_Run pg xt d 106 0 0 (xQ_i (sh n) r m') 29 [some (xv_r 35), some (xv_l a1952), none, none] [] (xq_2 (sh n) m) 0 0) :
    ∀ (fu : Nat) (a1953 : Int32) (m1951 : xm_S), mm_positionOf_l2 F a1952 k fu a1953 m1951 = some (r, m') → xm_Run pg xt d 106 0 0 (xQ_i (sh n) r m') 2 [some (xv_r 35), some (xv_l a1952), none, some (xv_i a1953)] [] (xq_2 (sh n) m1951) 0 0 := by
  intro fu
  induction fu with
  | zero => intro a1953 m1951 h; cases h
  | succ fu ih =>
    intro a1953 m1951 h
    rw [mm_positionOf_l2] at h
    refine xr_iload_n (in_106 rfl) rfl ?_
    refine xr_aload_n (in_106 rfl) rfl ?_
    refine xq_geti (in_106 rfl) (fo_106 rfl) (sh_35 n) rfl ?_
    by_cases c1954 : (m1951.1 35 18) ≤ a1953
    · replace h := (if_pos c1954).symm.trans h
      refine xr_ict 29 (in_106 rfl) rfl c1954 ?_
      refine xr_forget (loc' := [some (xv_r 35), some (xv_l a1952), none, none]) (xl_s (xl_s (xl_o (xl_o xl_n)))) ?_
      exact hk m1951 h
    · replace h := (if_neg c1954).symm.trans h
      refine xr_icf 29 (in_106 rfl) rfl c1954 ?_
      refine xr_aload_n (in_106 rfl) rfl ?_
      refine xq_getr (in_106 rfl) (fo_106 rfl) (sh_35 n) rfl ?_
      refine xr_iload_n (in_106 rfl) rfl ?_
      obtain ⟨o1955, h⟩ := xg_e h
      refine xq_lald (in_106 rfl) (sh_50 n) o1955 ?_
      refine xr_lload_n (in_106 rfl) rfl ?_
      refine xr_lcmp (in_106 rfl) ?_
      by_cases c1956 : (lg_cmp (m1951.2 50 a1953.toNatClampNeg) a1952) = 0
      · replace h := (if_pos c1956).symm.trans h
        refine xr_iff 23 (in_106 rfl) rfl (fun q => q c1956) ?_
        refine xr_iload_n (in_106 rfl) rfl ?_
        obtain ⟨rfl, rfl⟩ := Prod.mk.inj (Option.some.inj h)
        exact xr_iret (kd_106) (in_106 rfl) (Nat.le_refl _) (Nat.le_refl _) ⟨rfl, rfl⟩
      · replace h := (if_neg c1956).symm.trans h
        refine xr_ift 23 (in_106 rfl) rfl c1956 ?_
        refine xr_iinc (a1953 + (1 : Int32)) [some (xv_r 35), some (xv_l a1952), none, some (xv_i (a1953 + (1 : Int32)))] (in_106 rfl) rfl (xi_1 _) (nl_106 rfl) rfl ?_
        refine xr_goto 2 (in_106 rfl) rfl ?_
        exact ih (a1953 + (1 : Int32)) m1951 h
def mm_positionOf (F : Nat) (a1 : Int64) (m : xm_S) : Option (Int32 × xm_S) := mm_positionOf_l2 F a1 (fun (m1957 : xm_S) => xg_n (m1957.1 35 18) 101 (xs_m (xw_l m1957 50 (m1957.1 35 18).toNatClampNeg a1) fun m1959 => xs_m (xw_i m1959 35 18 ((m1959.1 35 18) + (1 : Int32))) fun m1961 => some ((m1961.1 35 18) - (1 : Int32), m1961))) F (0 : Int32) m
theorem mm_positionOf_ok {xt : Nat → Nat × (Nat → Int32)} (n d : Nat) {F : Nat} {a1 : Int64} {m m' : xm_S} {r : Int32} (h : mm_positionOf F a1 m = some (r, m')) : xm_Run pg xt d 106 0 0 (xQ_i (sh n) r m') 0 [some (xv_r 35), some (xv_l a1), none, none] [] (xq_2 (sh n) m) 0 0 := by
  unfold mm_positionOf at h
  refine xr_iconst_ _ (in_106 rfl) (show _ = (0 : Int32) by decide) ?_
  refine xr_istore_n [some (xv_r 35), some (xv_l a1), none, some (xv_i (0 : Int32))] (in_106 rfl) (nl_106 rfl) rfl ?_
  refine mm_positionOf_l2_ok n d (fun m1957 h => ?_) F (0 : Int32) m h
  refine xr_aload_n (in_106 rfl) rfl ?_
  refine xq_getr (in_106 rfl) (fo_106 rfl) (sh_35 n) rfl ?_
  refine xr_aload_n (in_106 rfl) rfl ?_
  refine xq_geti (in_106 rfl) (fo_106 rfl) (sh_35 n) rfl ?_
  refine xr_lload_n (in_106 rfl) rfl ?_
  obtain ⟨o1958, h⟩ := xg_e h
  refine xq_last (in_106 rfl) (sh_50 n) o1958 ?_
  obtain ⟨m1959, e1960, h⟩ := xs_e h
  rw [← e1960]
  clear e1960
  refine xr_aload_n (in_106 rfl) rfl ?_
  refine xr_dup (in_106 rfl) rfl ?_
  refine xq_geti (in_106 rfl) (fo_106 rfl) (sh_35 n) rfl ?_
  refine xr_iconst_ _ (in_106 rfl) (show _ = (1 : Int32) by decide) ?_
  refine xr_iadd (in_106 rfl) ?_
  refine xq_put (in_106 rfl) (fo_106 rfl) (sh_35 n) rfl (Or.inl rfl) ?_
  obtain ⟨m1961, e1962, h⟩ := xs_e h
  rw [← e1962]
  clear e1962
  refine xr_aload_n (in_106 rfl) rfl ?_
  refine xq_geti (in_106 rfl) (fo_106 rfl) (sh_35 n) rfl ?_
  refine xr_iconst_ _ (in_106 rfl) (show _ = (1 : Int32) by decide) ?_
  refine xr_isub (in_106 rfl) ?_
  obtain ⟨rfl, rfl⟩ := Prod.mk.inj (Option.some.inj h)
  exact xr_iret (kd_106) (in_106 rfl) (Nat.le_refl _) (Nat.le_refl _) ⟨rfl, rfl⟩
def mm_counter (a0 : Int64) (a1 : Int32) : Int32 := (((a0 >>> (((3 : Int32) * a1).toInt64 &&& 63)) &&& (7 : Int64)).toInt32) - (1 : Int32)
theorem mm_counter_ok {xt : Nat → Nat × (Nat → Int32)} (n d : Nat) {a0 : Int64} {a1 : Int32} {m : xm_S} {r : Int32} (h : mm_counter a0 a1 = r) : xm_Run pg xt d 108 0 0 (xQ_i (sh n) r m) 0 [some (xv_l a0), none, some (xv_i a1)] [] (xq_2 (sh n) m) 0 0 := by
  unfold mm_counter at h
  refine xr_lload_n (in_108 rfl) rfl ?_
  refine xr_iconst_ _ (in_108 rfl) (show _ = (3 : Int32) by decide) ?_
  refine xr_iload_n (in_108 rfl) rfl ?_
  refine xr_imul (in_108 rfl) ?_
  refine xr_lshr (in_108 rfl) ?_
  refine xr_ldc2 (in_108 rfl) (ko_108 rfl) ?_
  refine xr_land (in_108 rfl) ?_
  refine xr_l2i (in_108 rfl) ?_
  refine xr_iconst_ _ (in_108 rfl) (show _ = (1 : Int32) by decide) ?_
  refine xr_isub (in_108 rfl) ?_
  subst h
  exact xr_iret (kd_108) (in_108 rfl) (Nat.le_refl _) (Nat.le_refl _) ⟨rfl, rfl⟩
