/-! Methods as functions, and that they run so (written by program). -/
def mm_waysOf (F : Nat) (a1 : Int32) (a2 : Int32) (m : xm_S) : Option (xm_S) := xg_n a1 28 (xs_m (xw_i m 42 a1.toNatClampNeg (0 : Int32)) fun m1484 => xg_n a1 28 (xg_n a1 28 (xg_n a1 28 (if (m1484.1 36 a1.toNatClampNeg) = (0 : Int32) then xc_v (mm_addWay F a1 (0 : Int64) m1484) fun m1522 => some m1522 else if (m1484.1 36 a1.toNatClampNeg) = (2 : Int32) then if ((a2 >>> ((m1484.1 37 a1.toNatClampNeg) &&& 31)) &&& (1 : Int32)) = (1 : Int32) then xc_v (mm_addWay F a1 (0 : Int64) m1484) fun m1528 => some m1528 else some m1484 else if (m1484.1 36 a1.toNatClampNeg) = (3 : Int32) then if ((a2 >>> ((m1484.1 37 a1.toNatClampNeg) &&& 31)) &&& (1 : Int32)) = 0 then xc_v (mm_addWay F a1 (0 : Int64) m1484) fun m1534 => some m1534 else some m1484 else if (m1484.1 36 a1.toNatClampNeg) = (4 : Int32) then xc_v (mm_addJoined F a1 (m1484.1 37 a1.toNatClampNeg) (m1484.1 38 a1.toNatClampNeg) m1484) fun m1595 => some m1595 else if (m1484.1 36 a1.toNatClampNeg) = (5 : Int32) then xc_v (mm_addAll F a1 (m1484.1 37 a1.toNatClampNeg) (0 : Int64) m1484) fun m1628 => xc_v (mm_addAll F a1 (m1484.1 38 a1.toNatClampNeg) (0 : Int64) m1628) fun m1632 => some m1632 else if (m1484.1 36 a1.toNatClampNeg) = (6 : Int32) then xc_v (mm_addWay F a1 ((1 : Int64) <<< ((m1484.1 37 a1.toNatClampNeg).toInt64 &&& 63)) m1484) fun m1637 => xg_n (m1484.1 37 a1.toNatClampNeg) 28 (xj_j (fun (x1644 : Int32) => xg_n a1 28 (xs_m (xw_i m1637 42 a1.toNatClampNeg x1644) fun m1649 => some m1649)) fun j1645 => if (m1637.1 42 (m1484.1 37 a1.toNatClampNeg).toNatClampNeg) ≤ (60 : Int32) then xg_n a1 28 (j1645 (m1637.1 42 a1.toNatClampNeg)) else j1645 (61 : Int32)) else if (m1484.1 36 a1.toNatClampNeg) = (7 : Int32) then xc_v (mm_addAll F a1 (m1484.1 38 a1.toNatClampNeg) (0 : Int64) m1484) fun m1655 => xc_v (mm_addAll F a1 (m1484.1 37 a1.toNatClampNeg) (((1 : Int64) <<< (a1.toInt64 &&& 63)) ||| ((1 : Int64) <<< ((a1 + (28 : Int32)).toInt64 &&& 63))) m1655) fun m1659 => some m1659 else if (m1484.1 36 a1.toNatClampNeg) = (8 : Int32) then xc_v (mm_addJoined F a1 (m1484.1 38 a1.toNatClampNeg) (m1484.1 37 a1.toNatClampNeg) m1484) fun m1664 => xc_v (mm_addAll F a1 (m1484.1 38 a1.toNatClampNeg) ((1 : Int64) <<< (a1.toInt64 &&& 63)) m1664) fun m1668 => some m1668 else some m1484))))
theorem mm_waysOf_ok {xt : Nat → Nat × (Nat → Int32)} (n d : Nat) {F : Nat} {a1 : Int32} {a2 : Int32} {m m' : xm_S} (h : mm_waysOf F a1 a2 m = some m') : xm_Run pg xt (d + 2) 93 0 0 (xQ_v (sh n) m') 0 [some (xv_r 35), some (xv_i a1), some (xv_i a2), none, none] [] (xq_2 (sh n) m) 0 0 := by
  unfold mm_waysOf at h
  refine xr_aload_n (in_93 rfl) rfl ?_
  refine xq_getr (in_93 rfl) (fo_93 rfl) (sh_35 n) rfl ?_
  refine xr_iload_n (in_93 rfl) rfl ?_
  refine xr_iconst_ _ (in_93 rfl) (show _ = (0 : Int32) by decide) ?_
  obtain ⟨o1483, h⟩ := xg_e h
  refine xq_iast (in_93 rfl) (sh_42 n) o1483 ?_
  obtain ⟨m1484, e1485, h⟩ := xs_e h
  rw [← e1485]
  clear e1485
  refine xr_aload_n (in_93 rfl) rfl ?_
  refine xq_getr (in_93 rfl) (fo_93 rfl) (sh_35 n) rfl ?_
  refine xr_iload_n (in_93 rfl) rfl ?_
  obtain ⟨o1486, h⟩ := xg_e h
  refine xq_iald (in_93 rfl) (sh_37 n) o1486 ?_
  refine xr_istore_n [some (xv_r 35), some (xv_i a1), some (xv_i a2), some (xv_i (m1484.1 37 a1.toNatClampNeg)), none] (in_93 rfl) (nl_93 rfl) rfl ?_
  refine xr_aload_n (in_93 rfl) rfl ?_
  refine xq_getr (in_93 rfl) (fo_93 rfl) (sh_35 n) rfl ?_
  refine xr_iload_n (in_93 rfl) rfl ?_
  obtain ⟨o1487, h⟩ := xg_e h
  refine xq_iald (in_93 rfl) (sh_38 n) o1487 ?_
  refine xr_istore [some (xv_r 35), some (xv_i a1), some (xv_i a2), some (xv_i (m1484.1 37 a1.toNatClampNeg)), some (xv_i (m1484.1 38 a1.toNatClampNeg))] (in_93 rfl) (nl_93 rfl) rfl ?_
  refine xr_aload_n (in_93 rfl) rfl ?_
  refine xq_getr (in_93 rfl) (fo_93 rfl) (sh_35 n) rfl ?_
  refine xr_iload_n (in_93 rfl) rfl ?_
  obtain ⟨o1488, h⟩ := xg_e h
  refine xq_iald (in_93 rfl) (sh_36 n) o1488 ?_
  by_cases c1489 : (m1484.1 36 a1.toNatClampNeg) = (0 : Int32)
  · replace h := (if_pos c1489).symm.trans h
    refine xr_swi 80 (in_93 rfl) (by rw [c1489]; decide) (by rw [c1489]; decide) (by rw [c1489]; rfl) rfl ?_
    refine xr_aload_n (in_93 rfl) rfl ?_
    refine xr_iload_n (in_93 rfl) rfl ?_
    refine xr_lconst_ _ (in_93 rfl) (show _ = (0 : Int64) by decide) ?_
    obtain ⟨m1522, e1523, h⟩ := xc_v_e h
    refine xq_callv [xv_r 35, xv_i a1, xv_l (0 : Int64)] [] [some (xv_r 35), some (xv_i a1), some (xv_l (0 : Int64)), none, none] (xk_V (in_93 rfl) (sh_35 n)) (cl_93 rfl) rfl rfl rfl rfl (mm_addWay_ok n (d + 1) e1523) ?_
    refine xr_goto 240 (in_93 rfl) rfl ?_
    obtain rfl := Option.some.inj h
    exact xr_vret (kd_93) (in_93 rfl) (Nat.le_refl _) (Nat.le_refl _) ⟨rfl, rfl⟩
  replace h := (if_neg c1489).symm.trans h
  by_cases c1525 : (m1484.1 36 a1.toNatClampNeg) = (2 : Int32)
  · replace h := (if_pos c1525).symm.trans h
    refine xr_swi 89 (in_93 rfl) (by rw [c1525]; decide) (by rw [c1525]; decide) (by rw [c1525]; rfl) rfl ?_
    refine xr_iload_n (in_93 rfl) rfl ?_
    refine xr_iload_n (in_93 rfl) rfl ?_
    refine xr_ishr (in_93 rfl) ?_
    refine xr_iconst_ _ (in_93 rfl) (show _ = (1 : Int32) by decide) ?_
    refine xr_iand (in_93 rfl) ?_
    refine xr_iconst_ _ (in_93 rfl) (show _ = (1 : Int32) by decide) ?_
    by_cases c1526 : ((a2 >>> ((m1484.1 37 a1.toNatClampNeg) &&& 31)) &&& (1 : Int32)) = (1 : Int32)
    · replace h := (if_pos c1526).symm.trans h
      refine xr_icf 240 (in_93 rfl) rfl (fun q => q c1526) ?_
      refine xr_aload_n (in_93 rfl) rfl ?_
      refine xr_iload_n (in_93 rfl) rfl ?_
      refine xr_lconst_ _ (in_93 rfl) (show _ = (0 : Int64) by decide) ?_
      obtain ⟨m1528, e1529, h⟩ := xc_v_e h
      refine xq_callv [xv_r 35, xv_i a1, xv_l (0 : Int64)] [] [some (xv_r 35), some (xv_i a1), some (xv_l (0 : Int64)), none, none] (xk_V (in_93 rfl) (sh_35 n)) (cl_93 rfl) rfl rfl rfl rfl (mm_addWay_ok n (d + 1) e1529) ?_
      refine xr_goto 240 (in_93 rfl) rfl ?_
      obtain rfl := Option.some.inj h
      exact xr_vret (kd_93) (in_93 rfl) (Nat.le_refl _) (Nat.le_refl _) ⟨rfl, rfl⟩
    · replace h := (if_neg c1526).symm.trans h
      refine xr_ict 240 (in_93 rfl) rfl c1526 ?_
      obtain rfl := Option.some.inj h
      exact xr_vret (kd_93) (in_93 rfl) (Nat.le_refl _) (Nat.le_refl _) ⟨rfl, rfl⟩
  replace h := (if_neg c1525).symm.trans h
  by_cases c1531 : (m1484.1 36 a1.toNatClampNeg) = (3 : Int32)
  · replace h := (if_pos c1531).symm.trans h
    refine xr_swi 107 (in_93 rfl) (by rw [c1531]; decide) (by rw [c1531]; decide) (by rw [c1531]; rfl) rfl ?_
    refine xr_iload_n (in_93 rfl) rfl ?_
    refine xr_iload_n (in_93 rfl) rfl ?_
    refine xr_ishr (in_93 rfl) ?_
    refine xr_iconst_ _ (in_93 rfl) (show _ = (1 : Int32) by decide) ?_
    refine xr_iand (in_93 rfl) ?_
    by_cases c1532 : ((a2 >>> ((m1484.1 37 a1.toNatClampNeg) &&& 31)) &&& (1 : Int32)) = 0
    · replace h := (if_pos c1532).symm.trans h
      refine xr_iff 240 (in_93 rfl) rfl (fun q => q c1532) ?_
      refine xr_aload_n (in_93 rfl) rfl ?_
      refine xr_iload_n (in_93 rfl) rfl ?_
      refine xr_lconst_ _ (in_93 rfl) (show _ = (0 : Int64) by decide) ?_
      obtain ⟨m1534, e1535, h⟩ := xc_v_e h
      refine xq_callv [xv_r 35, xv_i a1, xv_l (0 : Int64)] [] [some (xv_r 35), some (xv_i a1), some (xv_l (0 : Int64)), none, none] (xk_V (in_93 rfl) (sh_35 n)) (cl_93 rfl) rfl rfl rfl rfl (mm_addWay_ok n (d + 1) e1535) ?_
      refine xr_goto 240 (in_93 rfl) rfl ?_
      obtain rfl := Option.some.inj h
      exact xr_vret (kd_93) (in_93 rfl) (Nat.le_refl _) (Nat.le_refl _) ⟨rfl, rfl⟩
    · replace h := (if_neg c1532).symm.trans h
      refine xr_ift 240 (in_93 rfl) rfl c1532 ?_
      obtain rfl := Option.some.inj h
      exact xr_vret (kd_93) (in_93 rfl) (Nat.le_refl _) (Nat.le_refl _) ⟨rfl, rfl⟩
  replace h := (if_neg c1531).symm.trans h
  by_cases c1537 : (m1484.1 36 a1.toNatClampNeg) = (4 : Int32)
  · replace h := (if_pos c1537).symm.trans h
    refine xr_swi 124 (in_93 rfl) (by rw [c1537]; decide) (by rw [c1537]; decide) (by rw [c1537]; rfl) rfl ?_
    refine xr_aload_n (in_93 rfl) rfl ?_
    refine xr_iload_n (in_93 rfl) rfl ?_
    refine xr_iload_n (in_93 rfl) rfl ?_
    refine xr_iload (in_93 rfl) rfl ?_
    obtain ⟨m1595, e1596, h⟩ := xc_v_e h
    refine xq_callv [xv_r 35, xv_i a1, xv_i (m1484.1 37 a1.toNatClampNeg), xv_i (m1484.1 38 a1.toNatClampNeg)] [] [some (xv_r 35), some (xv_i a1), some (xv_i (m1484.1 37 a1.toNatClampNeg)), some (xv_i (m1484.1 38 a1.toNatClampNeg)), none, none, none] (xk_V (in_93 rfl) (sh_35 n)) (cl_93 rfl) rfl rfl rfl rfl (mm_addJoined_ok n d e1596) ?_
    refine xr_goto 240 (in_93 rfl) rfl ?_
    obtain rfl := Option.some.inj h
    exact xr_vret (kd_93) (in_93 rfl) (Nat.le_refl _) (Nat.le_refl _) ⟨rfl, rfl⟩
  replace h := (if_neg c1537).symm.trans h
  by_cases c1598 : (m1484.1 36 a1.toNatClampNeg) = (5 : Int32)
  · replace h := (if_pos c1598).symm.trans h
    refine xr_swi 135 (in_93 rfl) (by rw [c1598]; decide) (by rw [c1598]; decide) (by rw [c1598]; rfl) rfl ?_
    refine xr_aload_n (in_93 rfl) rfl ?_
    refine xr_iload_n (in_93 rfl) rfl ?_
    refine xr_iload_n (in_93 rfl) rfl ?_
    refine xr_lconst_ _ (in_93 rfl) (show _ = (0 : Int64) by decide) ?_
    obtain ⟨m1628, e1629, h⟩ := xc_v_e h
    refine xq_callv [xv_r 35, xv_i a1, xv_i (m1484.1 37 a1.toNatClampNeg), xv_l (0 : Int64)] [] [some (xv_r 35), some (xv_i a1), some (xv_i (m1484.1 37 a1.toNatClampNeg)), some (xv_l (0 : Int64)), none, none] (xk_V (in_93 rfl) (sh_35 n)) (cl_93 rfl) rfl rfl rfl rfl (mm_addAll_ok n d e1629) ?_
    refine xr_aload_n (in_93 rfl) rfl ?_
    refine xr_iload_n (in_93 rfl) rfl ?_
    refine xr_iload (in_93 rfl) rfl ?_
    refine xr_lconst_ _ (in_93 rfl) (show _ = (0 : Int64) by decide) ?_
    obtain ⟨m1632, e1633, h⟩ := xc_v_e h
    refine xq_callv [xv_r 35, xv_i a1, xv_i (m1484.1 38 a1.toNatClampNeg), xv_l (0 : Int64)] [] [some (xv_r 35), some (xv_i a1), some (xv_i (m1484.1 38 a1.toNatClampNeg)), some (xv_l (0 : Int64)), none, none] (xk_V (in_93 rfl) (sh_35 n)) (cl_93 rfl) rfl rfl rfl rfl (mm_addAll_ok n d e1633) ?_
    refine xr_goto 240 (in_93 rfl) rfl ?_
    obtain rfl := Option.some.inj h
    exact xr_vret (kd_93) (in_93 rfl) (Nat.le_refl _) (Nat.le_refl _) ⟨rfl, rfl⟩
  replace h := (if_neg c1598).symm.trans h
  by_cases c1635 : (m1484.1 36 a1.toNatClampNeg) = (6 : Int32)
  · replace h := (if_pos c1635).symm.trans h
    refine xr_swi 153 (in_93 rfl) (by rw [c1635]; decide) (by rw [c1635]; decide) (by rw [c1635]; rfl) rfl ?_
    refine xr_aload_n (in_93 rfl) rfl ?_
    refine xr_iload_n (in_93 rfl) rfl ?_
    refine xr_lconst_ _ (in_93 rfl) (show _ = (1 : Int64) by decide) ?_
    refine xr_iload_n (in_93 rfl) rfl ?_
    refine xr_lshl (in_93 rfl) ?_
    obtain ⟨m1637, e1638, h⟩ := xc_v_e h
    refine xq_callv [xv_r 35, xv_i a1, xv_l ((1 : Int64) <<< ((m1484.1 37 a1.toNatClampNeg).toInt64 &&& 63))] [] [some (xv_r 35), some (xv_i a1), some (xv_l ((1 : Int64) <<< ((m1484.1 37 a1.toNatClampNeg).toInt64 &&& 63))), none, none] (xk_V (in_93 rfl) (sh_35 n)) (cl_93 rfl) rfl rfl rfl rfl (mm_addWay_ok n (d + 1) e1638) ?_
    refine xr_aload_n (in_93 rfl) rfl ?_
    refine xq_getr (in_93 rfl) (fo_93 rfl) (sh_35 n) rfl ?_
    refine xr_iload_n (in_93 rfl) rfl ?_
    refine xr_aload_n (in_93 rfl) rfl ?_
    refine xq_getr (in_93 rfl) (fo_93 rfl) (sh_35 n) rfl ?_
    refine xr_iload_n (in_93 rfl) rfl ?_
    obtain ⟨o1640, h⟩ := xg_e h
    refine xq_iald (in_93 rfl) (sh_42 n) o1640 ?_
    refine xr_bipush_ _ (in_93 rfl) (show _ = (60 : Int32) by decide) ?_
    obtain ⟨j1645, e1646, h⟩ := xj_e h
    have q1647 : ∀ (x1644 : Int32), j1645 x1644 = some m' → xm_Run pg xt (d + 2) 93 0 0 (xQ_v (sh n) m') 188 [none, none, none, none, none] [xv_i x1644, xv_i a1, xv_r 42] (xq_2 (sh n) m1637) 0 0 := by
      intro x1644 h
      rw [e1646] at h
      obtain ⟨o1648, h⟩ := xg_e h
      refine xq_iast (in_93 rfl) (sh_42 n) o1648 ?_
      obtain ⟨m1649, e1650, h⟩ := xs_e h
      rw [← e1650]
      clear e1650
      refine xr_goto 240 (in_93 rfl) rfl ?_
      obtain rfl := Option.some.inj h
      exact xr_vret (kd_93) (in_93 rfl) (Nat.le_refl _) (Nat.le_refl _) ⟨rfl, rfl⟩
    clear e1646
    by_cases c1651 : (m1637.1 42 (m1484.1 37 a1.toNatClampNeg).toNatClampNeg) ≤ (60 : Int32)
    · replace h := (if_pos c1651).symm.trans h
      refine xr_ict 182 (in_93 rfl) rfl c1651 ?_
      refine xr_aload_n (in_93 rfl) rfl ?_
      refine xq_getr (in_93 rfl) (fo_93 rfl) (sh_35 n) rfl ?_
      refine xr_iload_n (in_93 rfl) rfl ?_
      obtain ⟨o1652, h⟩ := xg_e h
      refine xq_iald (in_93 rfl) (sh_42 n) o1652 ?_
      refine xr_forget (loc' := [none, none, none, none, none]) (xl_o (xl_o (xl_o (xl_o (xl_o xl_n))))) ?_
      exact q1647 (m1637.1 42 a1.toNatClampNeg) h
    · replace h := (if_neg c1651).symm.trans h
      refine xr_icf 182 (in_93 rfl) rfl c1651 ?_
      refine xr_bipush_ _ (in_93 rfl) (show _ = (61 : Int32) by decide) ?_
      refine xr_goto 188 (in_93 rfl) rfl ?_
      refine xr_forget (loc' := [none, none, none, none, none]) (xl_o (xl_o (xl_o (xl_o (xl_o xl_n))))) ?_
      exact q1647 (61 : Int32) h
  replace h := (if_neg c1635).symm.trans h
  by_cases c1653 : (m1484.1 36 a1.toNatClampNeg) = (7 : Int32)
  · replace h := (if_pos c1653).symm.trans h
    refine xr_swi 192 (in_93 rfl) (by rw [c1653]; decide) (by rw [c1653]; decide) (by rw [c1653]; rfl) rfl ?_
    refine xr_aload_n (in_93 rfl) rfl ?_
    refine xr_iload_n (in_93 rfl) rfl ?_
    refine xr_iload (in_93 rfl) rfl ?_
    refine xr_lconst_ _ (in_93 rfl) (show _ = (0 : Int64) by decide) ?_
    obtain ⟨m1655, e1656, h⟩ := xc_v_e h
    refine xq_callv [xv_r 35, xv_i a1, xv_i (m1484.1 38 a1.toNatClampNeg), xv_l (0 : Int64)] [] [some (xv_r 35), some (xv_i a1), some (xv_i (m1484.1 38 a1.toNatClampNeg)), some (xv_l (0 : Int64)), none, none] (xk_V (in_93 rfl) (sh_35 n)) (cl_93 rfl) rfl rfl rfl rfl (mm_addAll_ok n d e1656) ?_
    refine xr_aload_n (in_93 rfl) rfl ?_
    refine xr_iload_n (in_93 rfl) rfl ?_
    refine xr_iload_n (in_93 rfl) rfl ?_
    refine xr_lconst_ _ (in_93 rfl) (show _ = (1 : Int64) by decide) ?_
    refine xr_iload_n (in_93 rfl) rfl ?_
    refine xr_lshl (in_93 rfl) ?_
    refine xr_lconst_ _ (in_93 rfl) (show _ = (1 : Int64) by decide) ?_
    refine xr_iload_n (in_93 rfl) rfl ?_
    refine xr_bipush_ _ (in_93 rfl) (show _ = (28 : Int32) by decide) ?_
    refine xr_iadd (in_93 rfl) ?_
    refine xr_lshl (in_93 rfl) ?_
    refine xr_lor (in_93 rfl) ?_
    obtain ⟨m1659, e1660, h⟩ := xc_v_e h
    refine xq_callv [xv_r 35, xv_i a1, xv_i (m1484.1 37 a1.toNatClampNeg), xv_l (((1 : Int64) <<< (a1.toInt64 &&& 63)) ||| ((1 : Int64) <<< ((a1 + (28 : Int32)).toInt64 &&& 63)))] [] [some (xv_r 35), some (xv_i a1), some (xv_i (m1484.1 37 a1.toNatClampNeg)), some (xv_l (((1 : Int64) <<< (a1.toInt64 &&& 63)) ||| ((1 : Int64) <<< ((a1 + (28 : Int32)).toInt64 &&& 63)))), none, none] (xk_V (in_93 rfl) (sh_35 n)) (cl_93 rfl) rfl rfl rfl rfl (mm_addAll_ok n d e1660) ?_
    refine xr_goto 240 (in_93 rfl) rfl ?_
    obtain rfl := Option.some.inj h
    exact xr_vret (kd_93) (in_93 rfl) (Nat.le_refl _) (Nat.le_refl _) ⟨rfl, rfl⟩
  replace h := (if_neg c1653).symm.trans h
  by_cases c1662 : (m1484.1 36 a1.toNatClampNeg) = (8 : Int32)
  · replace h := (if_pos c1662).symm.trans h
    refine xr_swi 219 (in_93 rfl) (by rw [c1662]; decide) (by rw [c1662]; decide) (by rw [c1662]; rfl) rfl ?_
    refine xr_aload_n (in_93 rfl) rfl ?_
    refine xr_iload_n (in_93 rfl) rfl ?_
    refine xr_iload (in_93 rfl) rfl ?_
    refine xr_iload_n (in_93 rfl) rfl ?_
    obtain ⟨m1664, e1665, h⟩ := xc_v_e h
    refine xq_callv [xv_r 35, xv_i a1, xv_i (m1484.1 38 a1.toNatClampNeg), xv_i (m1484.1 37 a1.toNatClampNeg)] [] [some (xv_r 35), some (xv_i a1), some (xv_i (m1484.1 38 a1.toNatClampNeg)), some (xv_i (m1484.1 37 a1.toNatClampNeg)), none, none, none] (xk_V (in_93 rfl) (sh_35 n)) (cl_93 rfl) rfl rfl rfl rfl (mm_addJoined_ok n d e1665) ?_
    refine xr_aload_n (in_93 rfl) rfl ?_
    refine xr_iload_n (in_93 rfl) rfl ?_
    refine xr_iload (in_93 rfl) rfl ?_
    refine xr_lconst_ _ (in_93 rfl) (show _ = (1 : Int64) by decide) ?_
    refine xr_iload_n (in_93 rfl) rfl ?_
    refine xr_lshl (in_93 rfl) ?_
    obtain ⟨m1668, e1669, h⟩ := xc_v_e h
    refine xq_callv [xv_r 35, xv_i a1, xv_i (m1484.1 38 a1.toNatClampNeg), xv_l ((1 : Int64) <<< (a1.toInt64 &&& 63))] [] [some (xv_r 35), some (xv_i a1), some (xv_i (m1484.1 38 a1.toNatClampNeg)), some (xv_l ((1 : Int64) <<< (a1.toInt64 &&& 63))), none, none] (xk_V (in_93 rfl) (sh_35 n)) (cl_93 rfl) rfl rfl rfl rfl (mm_addAll_ok n d e1669) ?_
    refine xr_goto 240 (in_93 rfl) rfl ?_
    obtain rfl := Option.some.inj h
    exact xr_vret (kd_93) (in_93 rfl) (Nat.le_refl _) (Nat.le_refl _) ⟨rfl, rfl⟩
  replace h := (if_neg c1662).symm.trans h
  have c1489z : (m1484.1 36 a1.toNatClampNeg).toInt ≠ 0 := fun q => c1489 (Int32.toInt_inj.mp (q.trans (by decide)))
  have c1525z : (m1484.1 36 a1.toNatClampNeg).toInt ≠ 2 := fun q => c1525 (Int32.toInt_inj.mp (q.trans (by decide)))
  have c1531z : (m1484.1 36 a1.toNatClampNeg).toInt ≠ 3 := fun q => c1531 (Int32.toInt_inj.mp (q.trans (by decide)))
  have c1537z : (m1484.1 36 a1.toNatClampNeg).toInt ≠ 4 := fun q => c1537 (Int32.toInt_inj.mp (q.trans (by decide)))
  have c1598z : (m1484.1 36 a1.toNatClampNeg).toInt ≠ 5 := fun q => c1598 (Int32.toInt_inj.mp (q.trans (by decide)))
  have c1635z : (m1484.1 36 a1.toNatClampNeg).toInt ≠ 6 := fun q => c1635 (Int32.toInt_inj.mp (q.trans (by decide)))
  have c1653z : (m1484.1 36 a1.toNatClampNeg).toInt ≠ 7 := fun q => c1653 (Int32.toInt_inj.mp (q.trans (by decide)))
  have c1662z : (m1484.1 36 a1.toNatClampNeg).toInt ≠ 8 := fun q => c1662 (Int32.toInt_inj.mp (q.trans (by decide)))
  by_cases c1671 : (m1484.1 36 a1.toNatClampNeg) = (1 : Int32)
  · refine xr_swi 240 (in_93 rfl) (by rw [c1671]; decide) (by rw [c1671]; decide) (by rw [c1671]; rfl) rfl ?_
    obtain rfl := Option.some.inj h
    exact xr_vret (kd_93) (in_93 rfl) (Nat.le_refl _) (Nat.le_refl _) ⟨rfl, rfl⟩
  have c1671z : (m1484.1 36 a1.toNatClampNeg).toInt ≠ 1 := fun q => c1671 (Int32.toInt_inj.mp (q.trans (by decide)))
  refine xr_swo 240 (in_93 rfl) (by omega) rfl ?_
  obtain rfl := Option.some.inj h
  exact xr_vret (kd_93) (in_93 rfl) (Nat.le_refl _) (Nat.le_refl _) ⟨rfl, rfl⟩
def mm_waysUpTo_l2 (F : Nat) (a1479 : Int32) (a1480 : Int32) (k : xm_S → Option (xm_S)) : Nat → Int32 → xm_S → Option (xm_S)
  | 0, _, _ => none
  | fu + 1, a1481, m1478 => if a1479 < a1481 then k m1478 else xc_v (mm_waysOf F a1481 a1480 m1478) fun m1673 => mm_waysUpTo_l2 F a1479 a1480 k fu (a1481 + (1 : Int32)) m1673
theorem mm_waysUpTo_l2_ok {xt : Nat → Nat × (Nat → Int32)} (n d : Nat) {F : Nat} {a1479 : Int32} {a1480 : Int32} {k : xm_S → Option (xm_S)} {m' : xm_S} 
    (hk : ∀ (m : xm_S), k m = some m' → xm_Run pg xt (d + 3) 92 0 0 (xQ_v (sh n) m') 19 [none, none, none, none] [] (xq_2 (sh n) m) 0 0) :
    ∀ (fu : Nat) (a1481 : Int32) (m1478 : xm_S), mm_waysUpTo_l2 F a1479 a1480 k fu a1481 m1478 = some m' → xm_Run pg xt (d + 3) 92 0 0 (xQ_v (sh n) m') 2 [some (xv_r 35), some (xv_i a1479), some (xv_i a1480), some (xv_i a1481)] [] (xq_2 (sh n) m1478) 0 0 := by
  intro fu
  induction fu with
  | zero => intro a1481 m1478 h; cases h
  | succ fu ih =>
    intro a1481 m1478 h
    rw [mm_waysUpTo_l2] at h
    refine xr_iload_n (in_92 rfl) rfl ?_
    refine xr_iload_n (in_92 rfl) rfl ?_
    by_cases c1482 : a1479 < a1481
    · replace h := (if_pos c1482).symm.trans h
      refine xr_ict 19 (in_92 rfl) rfl c1482 ?_
      refine xr_forget (loc' := [none, none, none, none]) (xl_o (xl_o (xl_o (xl_o xl_n)))) ?_
      exact hk m1478 h
    · replace h := (if_neg c1482).symm.trans h
      refine xr_icf 19 (in_92 rfl) rfl c1482 ?_
      refine xr_aload_n (in_92 rfl) rfl ?_
      refine xr_iload_n (in_92 rfl) rfl ?_
      refine xr_iload_n (in_92 rfl) rfl ?_
      obtain ⟨m1673, e1674, h⟩ := xc_v_e h
      refine xq_callv [xv_r 35, xv_i a1481, xv_i a1480] [] [some (xv_r 35), some (xv_i a1481), some (xv_i a1480), none, none] (xk_V (in_92 rfl) (sh_35 n)) (cl_92 rfl) rfl rfl rfl rfl (mm_waysOf_ok n d e1674) ?_
      refine xr_iinc (a1481 + (1 : Int32)) [some (xv_r 35), some (xv_i a1479), some (xv_i a1480), some (xv_i (a1481 + (1 : Int32)))] (in_92 rfl) rfl (xi_1 _) (nl_92 rfl) rfl ?_
      refine xr_goto 2 (in_92 rfl) rfl ?_
      exact ih (a1481 + (1 : Int32)) m1673 h
def mm_waysUpTo (F : Nat) (a1 : Int32) (a2 : Int32) (m : xm_S) : Option (xm_S) := mm_waysUpTo_l2 F a1 a2 (fun (m1676 : xm_S) => some m1676) F (0 : Int32) m
theorem mm_waysUpTo_ok {xt : Nat → Nat × (Nat → Int32)} (n d : Nat) {F : Nat} {a1 : Int32} {a2 : Int32} {m m' : xm_S} (h : mm_waysUpTo F a1 a2 m = some m') : xm_Run pg xt (d + 3) 92 0 0 (xQ_v (sh n) m') 0 [some (xv_r 35), some (xv_i a1), some (xv_i a2), none] [] (xq_2 (sh n) m) 0 0 := by
  unfold mm_waysUpTo at h
  refine xr_iconst_ _ (in_92 rfl) (show _ = (0 : Int32) by decide) ?_
  refine xr_istore_n [some (xv_r 35), some (xv_i a1), some (xv_i a2), some (xv_i (0 : Int32))] (in_92 rfl) (nl_92 rfl) rfl ?_
  refine mm_waysUpTo_l2_ok n d (fun m1676 h => ?_) F (0 : Int32) m h
  obtain rfl := Option.some.inj h
  exact xr_vret (kd_92) (in_92 rfl) (Nat.le_refl _) (Nat.le_refl _) ⟨rfl, rfl⟩
def mm_ways (F : Nat) (a1 : Int32) (a2 : Int32) (m : xm_S) : Option (Int32 × xm_S) := if (mm_isFormula a1 m) = 0 then some ((-1 : Int32), m) else if a2 < 0 then some ((-1 : Int32), m) else if a2 ≤ (15 : Int32) then xc_v (mm_waysUpTo F a1 a2 m) fun m1681 => xg_n a1 28 (if (m1681.1 42 a1.toNatClampNeg) ≤ (60 : Int32) then xg_n a1 28 (some (m1681.1 42 a1.toNatClampNeg, m1681)) else some ((-2 : Int32), m1681)) else some ((-1 : Int32), m)
theorem mm_ways_ok {xt : Nat → Nat × (Nat → Int32)} (n d : Nat) {F : Nat} {a1 : Int32} {a2 : Int32} {m m' : xm_S} {r : Int32} (h : mm_ways F a1 a2 m = some (r, m')) : xm_Run pg xt (d + 4) 91 0 0 (xQ_i (sh n) r m') 0 [some (xv_r 35), some (xv_i a1), some (xv_i a2)] [] (xq_2 (sh n) m) 0 0 := by
  unfold mm_ways at h
  refine xr_aload_n (in_91 rfl) rfl ?_
  refine xr_iload_n (in_91 rfl) rfl ?_
  refine xq_calla [xv_r 35, xv_i a1] [] [some (xv_r 35), some (xv_i a1)] (xk_V (in_91 rfl) (sh_35 n)) (cl_91 rfl) rfl rfl rfl rfl (mm_isFormula_ok n (d + 3) rfl) ?_
  by_cases c1677 : (mm_isFormula a1 m) = 0
  · replace h := (if_pos c1677).symm.trans h
    refine xr_ift 18 (in_91 rfl) rfl c1677 ?_
    refine xr_iconst_ _ (in_91 rfl) (show _ = (-1 : Int32) by decide) ?_
    obtain ⟨rfl, rfl⟩ := Prod.mk.inj (Option.some.inj h)
    exact xr_iret (kd_91) (in_91 rfl) (Nat.le_refl _) (Nat.le_refl _) ⟨rfl, rfl⟩
  · replace h := (if_neg c1677).symm.trans h
    refine xr_iff 18 (in_91 rfl) rfl c1677 ?_
    refine xr_iload_n (in_91 rfl) rfl ?_
    by_cases c1678 : a2 < 0
    · replace h := (if_pos c1678).symm.trans h
      refine xr_ift 18 (in_91 rfl) rfl c1678 ?_
      refine xr_iconst_ _ (in_91 rfl) (show _ = (-1 : Int32) by decide) ?_
      obtain ⟨rfl, rfl⟩ := Prod.mk.inj (Option.some.inj h)
      exact xr_iret (kd_91) (in_91 rfl) (Nat.le_refl _) (Nat.le_refl _) ⟨rfl, rfl⟩
    · replace h := (if_neg c1678).symm.trans h
      refine xr_iff 18 (in_91 rfl) rfl c1678 ?_
      refine xr_iload_n (in_91 rfl) rfl ?_
      refine xr_bipush_ _ (in_91 rfl) (show _ = (15 : Int32) by decide) ?_
      by_cases c1679 : a2 ≤ (15 : Int32)
      · replace h := (if_pos c1679).symm.trans h
        refine xr_ict 20 (in_91 rfl) rfl c1679 ?_
        refine xr_aload_n (in_91 rfl) rfl ?_
        refine xr_iload_n (in_91 rfl) rfl ?_
        refine xr_iload_n (in_91 rfl) rfl ?_
        obtain ⟨m1681, e1682, h⟩ := xc_v_e h
        refine xq_callv [xv_r 35, xv_i a1, xv_i a2] [] [some (xv_r 35), some (xv_i a1), some (xv_i a2), none] (xk_V (in_91 rfl) (sh_35 n)) (cl_91 rfl) rfl rfl rfl rfl (mm_waysUpTo_ok n d e1682) ?_
        refine xr_aload_n (in_91 rfl) rfl ?_
        refine xq_getr (in_91 rfl) (fo_91 rfl) (sh_35 n) rfl ?_
        refine xr_iload_n (in_91 rfl) rfl ?_
        obtain ⟨o1684, h⟩ := xg_e h
        refine xq_iald (in_91 rfl) (sh_42 n) o1684 ?_
        refine xr_bipush_ _ (in_91 rfl) (show _ = (60 : Int32) by decide) ?_
        by_cases c1685 : (m1681.1 42 a1.toNatClampNeg) ≤ (60 : Int32)
        · replace h := (if_pos c1685).symm.trans h
          refine xr_ict 42 (in_91 rfl) rfl c1685 ?_
          refine xr_aload_n (in_91 rfl) rfl ?_
          refine xq_getr (in_91 rfl) (fo_91 rfl) (sh_35 n) rfl ?_
          refine xr_iload_n (in_91 rfl) rfl ?_
          obtain ⟨o1686, h⟩ := xg_e h
          refine xq_iald (in_91 rfl) (sh_42 n) o1686 ?_
          obtain ⟨rfl, rfl⟩ := Prod.mk.inj (Option.some.inj h)
          exact xr_iret (kd_91) (in_91 rfl) (Nat.le_refl _) (Nat.le_refl _) ⟨rfl, rfl⟩
        · replace h := (if_neg c1685).symm.trans h
          refine xr_icf 42 (in_91 rfl) rfl c1685 ?_
          refine xr_bipush_ _ (in_91 rfl) (show _ = (-2 : Int32) by decide) ?_
          refine xr_goto 48 (in_91 rfl) rfl ?_
          obtain ⟨rfl, rfl⟩ := Prod.mk.inj (Option.some.inj h)
          exact xr_iret (kd_91) (in_91 rfl) (Nat.le_refl _) (Nat.le_refl _) ⟨rfl, rfl⟩
      · replace h := (if_neg c1679).symm.trans h
        refine xr_icf 20 (in_91 rfl) rfl c1679 ?_
        refine xr_iconst_ _ (in_91 rfl) (show _ = (-1 : Int32) by decide) ?_
        obtain ⟨rfl, rfl⟩ := Prod.mk.inj (Option.some.inj h)
        exact xr_iret (kd_91) (in_91 rfl) (Nat.le_refl _) (Nat.le_refl _) ⟨rfl, rfl⟩
def mm_findUntils_l6 (F : Nat) (a1700 : Int32) (k : Int32 → xm_S → Option (xm_S)) : Nat → Int32 → Int32 → xm_S → Option (xm_S)
  | 0, _, _, _ => none
  | fu + 1, a1701, a1702, m1699 => if a1702 < 0 then k a1701 m1699 else xj_j (fun (x1709 : Int32) => if ((x1709 >>> (a1702 &&& 31)) &&& (1 : Int32)) = (1 : Int32) then xg_n a1702 28 (if (mm_hasTwo (m1699.1 36 a1702.toNatClampNeg)) = 0 then mm_findUntils_l6 F a1700 k fu x1709 (a1702 + (-1 : Int32)) m1699 else xg_n a1702 28 (mm_findUntils_l6 F a1700 k fu (x1709 ||| ((1 : Int32) <<< ((m1699.1 38 a1702.toNatClampNeg) &&& 31))) (a1702 + (-1 : Int32)) m1699)) else mm_findUntils_l6 F a1700 k fu x1709 (a1702 + (-1 : Int32)) m1699) fun j1710 => if ((a1701 >>> (a1702 &&& 31)) &&& (1 : Int32)) = (1 : Int32) then xg_n a1702 28 (if (m1699.1 36 a1702.toNatClampNeg) ≤ (3 : Int32) then j1710 a1701 else xg_n a1702 28 (j1710 (a1701 ||| ((1 : Int32) <<< ((m1699.1 37 a1702.toNatClampNeg) &&& 31))))) else j1710 a1701
theorem mm_findUntils_l6_ok {xt : Nat → Nat × (Nat → Int32)} (n d : Nat) {F : Nat} {a1700 : Int32} {k : Int32 → xm_S → Option (xm_S)} {m' : xm_S} 
    (hk : ∀ (z2 : Int32) (m : xm_S), k z2 m = some m' → xm_Run pg xt (d + 1) 99 0 0 (xQ_v (sh n) m') 78 [some (xv_r 35), some (xv_i a1700), some (xv_i z2), none] [] (xq_2 (sh n) m) 0 0) :
    ∀ (fu : Nat) (a1701 : Int32) (a1702 : Int32) (m1699 : xm_S), mm_findUntils_l6 F a1700 k fu a1701 a1702 m1699 = some m' → xm_Run pg xt (d + 1) 99 0 0 (xQ_v (sh n) m') 6 [some (xv_r 35), some (xv_i a1700), some (xv_i a1701), some (xv_i a1702)] [] (xq_2 (sh n) m1699) 0 0 := by
  intro fu
  induction fu with
  | zero => intro a1701 a1702 m1699 h; cases h
  | succ fu ih =>
    intro a1701 a1702 m1699 h
    rw [mm_findUntils_l6] at h
    refine xr_iload_n (in_99 rfl) rfl ?_
    by_cases c1703 : a1702 < 0
    · replace h := (if_pos c1703).symm.trans h
      refine xr_ift 78 (in_99 rfl) rfl c1703 ?_
      refine xr_forget (loc' := [some (xv_r 35), some (xv_i a1700), some (xv_i a1701), none]) (xl_s (xl_s (xl_s (xl_o xl_n)))) ?_
      exact hk a1701 m1699 h
    · replace h := (if_neg c1703).symm.trans h
      refine xr_iff 78 (in_99 rfl) rfl c1703 ?_
      refine xr_iload_n (in_99 rfl) rfl ?_
      refine xr_iload_n (in_99 rfl) rfl ?_
      refine xr_ishr (in_99 rfl) ?_
      refine xr_iconst_ _ (in_99 rfl) (show _ = (1 : Int32) by decide) ?_
      refine xr_iand (in_99 rfl) ?_
      refine xr_iconst_ _ (in_99 rfl) (show _ = (1 : Int32) by decide) ?_
      obtain ⟨j1710, e1711, h⟩ := xj_e h
      have q1712 : ∀ (x1709 : Int32), j1710 x1709 = some m' → xm_Run pg xt (d + 1) 99 0 0 (xQ_v (sh n) m') 40 [some (xv_r 35), some (xv_i a1700), some (xv_i x1709), some (xv_i a1702)] [] (xq_2 (sh n) m1699) 0 0 := by
        intro x1709 h
        rw [e1711] at h
        refine xr_iload_n (in_99 rfl) rfl ?_
        refine xr_iload_n (in_99 rfl) rfl ?_
        refine xr_ishr (in_99 rfl) ?_
        refine xr_iconst_ _ (in_99 rfl) (show _ = (1 : Int32) by decide) ?_
        refine xr_iand (in_99 rfl) ?_
        refine xr_iconst_ _ (in_99 rfl) (show _ = (1 : Int32) by decide) ?_
        by_cases c1713 : ((x1709 >>> (a1702 &&& 31)) &&& (1 : Int32)) = (1 : Int32)
        · replace h := (if_pos c1713).symm.trans h
          refine xr_icf 72 (in_99 rfl) rfl (fun q => q c1713) ?_
          refine xr_aload_n (in_99 rfl) rfl ?_
          refine xq_getr (in_99 rfl) (fo_99 rfl) (sh_35 n) rfl ?_
          refine xr_iload_n (in_99 rfl) rfl ?_
          obtain ⟨o1714, h⟩ := xg_e h
          refine xq_iald (in_99 rfl) (sh_36 n) o1714 ?_
          refine xq_calla [xv_i (m1699.1 36 a1702.toNatClampNeg)] [] [some (xv_i (m1699.1 36 a1702.toNatClampNeg))] (xk_S (in_99 rfl)) (cl_99 rfl) rfl rfl rfl rfl (mm_hasTwo_ok n d rfl) ?_
          by_cases c1715 : (mm_hasTwo (m1699.1 36 a1702.toNatClampNeg)) = 0
          · replace h := (if_pos c1715).symm.trans h
            refine xr_ift 72 (in_99 rfl) rfl c1715 ?_
            refine xr_iinc (a1702 + (-1 : Int32)) [some (xv_r 35), some (xv_i a1700), some (xv_i x1709), some (xv_i (a1702 + (-1 : Int32)))] (in_99 rfl) rfl (xi_m1 _) (nl_99 rfl) rfl ?_
            refine xr_goto 6 (in_99 rfl) rfl ?_
            exact ih x1709 (a1702 + (-1 : Int32)) m1699 h
          · replace h := (if_neg c1715).symm.trans h
            refine xr_iff 72 (in_99 rfl) rfl c1715 ?_
            refine xr_iload_n (in_99 rfl) rfl ?_
            refine xr_iconst_ _ (in_99 rfl) (show _ = (1 : Int32) by decide) ?_
            refine xr_aload_n (in_99 rfl) rfl ?_
            refine xq_getr (in_99 rfl) (fo_99 rfl) (sh_35 n) rfl ?_
            refine xr_iload_n (in_99 rfl) rfl ?_
            obtain ⟨o1716, h⟩ := xg_e h
            refine xq_iald (in_99 rfl) (sh_38 n) o1716 ?_
            refine xr_ishl (in_99 rfl) ?_
            refine xr_ior (in_99 rfl) ?_
            refine xr_istore_n [some (xv_r 35), some (xv_i a1700), some (xv_i (x1709 ||| ((1 : Int32) <<< ((m1699.1 38 a1702.toNatClampNeg) &&& 31)))), some (xv_i a1702)] (in_99 rfl) (nl_99 rfl) rfl ?_
            refine xr_iinc (a1702 + (-1 : Int32)) [some (xv_r 35), some (xv_i a1700), some (xv_i (x1709 ||| ((1 : Int32) <<< ((m1699.1 38 a1702.toNatClampNeg) &&& 31)))), some (xv_i (a1702 + (-1 : Int32)))] (in_99 rfl) rfl (xi_m1 _) (nl_99 rfl) rfl ?_
            refine xr_goto 6 (in_99 rfl) rfl ?_
            exact ih (x1709 ||| ((1 : Int32) <<< ((m1699.1 38 a1702.toNatClampNeg) &&& 31))) (a1702 + (-1 : Int32)) m1699 h
        · replace h := (if_neg c1713).symm.trans h
          refine xr_ict 72 (in_99 rfl) rfl c1713 ?_
          refine xr_iinc (a1702 + (-1 : Int32)) [some (xv_r 35), some (xv_i a1700), some (xv_i x1709), some (xv_i (a1702 + (-1 : Int32)))] (in_99 rfl) rfl (xi_m1 _) (nl_99 rfl) rfl ?_
          refine xr_goto 6 (in_99 rfl) rfl ?_
          exact ih x1709 (a1702 + (-1 : Int32)) m1699 h
      clear e1711
      by_cases c1717 : ((a1701 >>> (a1702 &&& 31)) &&& (1 : Int32)) = (1 : Int32)
      · replace h := (if_pos c1717).symm.trans h
        refine xr_icf 40 (in_99 rfl) rfl (fun q => q c1717) ?_
        refine xr_aload_n (in_99 rfl) rfl ?_
        refine xq_getr (in_99 rfl) (fo_99 rfl) (sh_35 n) rfl ?_
        refine xr_iload_n (in_99 rfl) rfl ?_
        obtain ⟨o1718, h⟩ := xg_e h
        refine xq_iald (in_99 rfl) (sh_36 n) o1718 ?_
        refine xr_iconst_ _ (in_99 rfl) (show _ = (3 : Int32) by decide) ?_
        by_cases c1719 : (m1699.1 36 a1702.toNatClampNeg) ≤ (3 : Int32)
        · replace h := (if_pos c1719).symm.trans h
          refine xr_ict 40 (in_99 rfl) rfl c1719 ?_
          exact q1712 a1701 h
        · replace h := (if_neg c1719).symm.trans h
          refine xr_icf 40 (in_99 rfl) rfl c1719 ?_
          refine xr_iload_n (in_99 rfl) rfl ?_
          refine xr_iconst_ _ (in_99 rfl) (show _ = (1 : Int32) by decide) ?_
          refine xr_aload_n (in_99 rfl) rfl ?_
          refine xq_getr (in_99 rfl) (fo_99 rfl) (sh_35 n) rfl ?_
          refine xr_iload_n (in_99 rfl) rfl ?_
          obtain ⟨o1720, h⟩ := xg_e h
          refine xq_iald (in_99 rfl) (sh_37 n) o1720 ?_
          refine xr_ishl (in_99 rfl) ?_
          refine xr_ior (in_99 rfl) ?_
          refine xr_istore_n [some (xv_r 35), some (xv_i a1700), some (xv_i (a1701 ||| ((1 : Int32) <<< ((m1699.1 37 a1702.toNatClampNeg) &&& 31)))), some (xv_i a1702)] (in_99 rfl) (nl_99 rfl) rfl ?_
          exact q1712 (a1701 ||| ((1 : Int32) <<< ((m1699.1 37 a1702.toNatClampNeg) &&& 31))) h
      · replace h := (if_neg c1717).symm.trans h
        refine xr_ict 40 (in_99 rfl) rfl c1717 ?_
        exact q1712 a1701 h
def mm_findUntils_l85 (F : Nat) (a1726 : Int32) (a1727 : Int32) (k : xm_S → Option (xm_S)) : Nat → Int32 → xm_S → Option (xm_S)
  | 0, _, _ => none
  | fu + 1, a1728, m1725 => if a1726 < a1728 then k m1725 else if ((a1727 >>> (a1728 &&& 31)) &&& (1 : Int32)) = (1 : Int32) then xg_n a1728 28 (if (m1725.1 36 a1728.toNatClampNeg) = (7 : Int32) then xg_n (m1725.1 35 17) 28 (xs_m (xw_i m1725 49 (m1725.1 35 17).toNatClampNeg a1728) fun m1734 => xs_m (xw_i m1734 35 17 ((m1734.1 35 17) + (1 : Int32))) fun m1736 => mm_findUntils_l85 F a1726 a1727 k fu (a1728 + (1 : Int32)) m1736) else mm_findUntils_l85 F a1726 a1727 k fu (a1728 + (1 : Int32)) m1725) else mm_findUntils_l85 F a1726 a1727 k fu (a1728 + (1 : Int32)) m1725
theorem mm_findUntils_l85_ok {xt : Nat → Nat × (Nat → Int32)} (n d : Nat) {F : Nat} {a1726 : Int32} {a1727 : Int32} {k : xm_S → Option (xm_S)} {m' : xm_S} 
    (hk : ∀ (m : xm_S), k m = some m' → xm_Run pg xt (d + 1) 99 0 0 (xQ_v (sh n) m') 136 [none, none, none, none] [] (xq_2 (sh n) m) 0 0) :
    ∀ (fu : Nat) (a1728 : Int32) (m1725 : xm_S), mm_findUntils_l85 F a1726 a1727 k fu a1728 m1725 = some m' → xm_Run pg xt (d + 1) 99 0 0 (xQ_v (sh n) m') 85 [some (xv_r 35), some (xv_i a1726), some (xv_i a1727), some (xv_i a1728)] [] (xq_2 (sh n) m1725) 0 0 := by
  intro fu
  induction fu with
  | zero => intro a1728 m1725 h; cases h
  | succ fu ih =>
    intro a1728 m1725 h
    rw [mm_findUntils_l85] at h
    refine xr_iload_n (in_99 rfl) rfl ?_
    refine xr_iload_n (in_99 rfl) rfl ?_
    by_cases c1729 : a1726 < a1728
    · replace h := (if_pos c1729).symm.trans h
      refine xr_ict 136 (in_99 rfl) rfl c1729 ?_
      refine xr_forget (loc' := [none, none, none, none]) (xl_o (xl_o (xl_o (xl_o xl_n)))) ?_
      exact hk m1725 h
    · replace h := (if_neg c1729).symm.trans h
      refine xr_icf 136 (in_99 rfl) rfl c1729 ?_
      refine xr_iload_n (in_99 rfl) rfl ?_
      refine xr_iload_n (in_99 rfl) rfl ?_
      refine xr_ishr (in_99 rfl) ?_
      refine xr_iconst_ _ (in_99 rfl) (show _ = (1 : Int32) by decide) ?_
      refine xr_iand (in_99 rfl) ?_
      refine xr_iconst_ _ (in_99 rfl) (show _ = (1 : Int32) by decide) ?_
      by_cases c1730 : ((a1727 >>> (a1728 &&& 31)) &&& (1 : Int32)) = (1 : Int32)
      · replace h := (if_pos c1730).symm.trans h
        refine xr_icf 130 (in_99 rfl) rfl (fun q => q c1730) ?_
        refine xr_aload_n (in_99 rfl) rfl ?_
        refine xq_getr (in_99 rfl) (fo_99 rfl) (sh_35 n) rfl ?_
        refine xr_iload_n (in_99 rfl) rfl ?_
        obtain ⟨o1731, h⟩ := xg_e h
        refine xq_iald (in_99 rfl) (sh_36 n) o1731 ?_
        refine xr_bipush_ _ (in_99 rfl) (show _ = (7 : Int32) by decide) ?_
        by_cases c1732 : (m1725.1 36 a1728.toNatClampNeg) = (7 : Int32)
        · replace h := (if_pos c1732).symm.trans h
          refine xr_icf 130 (in_99 rfl) rfl (fun q => q c1732) ?_
          refine xr_aload_n (in_99 rfl) rfl ?_
          refine xq_getr (in_99 rfl) (fo_99 rfl) (sh_35 n) rfl ?_
          refine xr_aload_n (in_99 rfl) rfl ?_
          refine xq_geti (in_99 rfl) (fo_99 rfl) (sh_35 n) rfl ?_
          refine xr_iload_n (in_99 rfl) rfl ?_
          obtain ⟨o1733, h⟩ := xg_e h
          refine xq_iast (in_99 rfl) (sh_49 n) o1733 ?_
          obtain ⟨m1734, e1735, h⟩ := xs_e h
          rw [← e1735]
          clear e1735
          refine xr_aload_n (in_99 rfl) rfl ?_
          refine xr_dup (in_99 rfl) rfl ?_
          refine xq_geti (in_99 rfl) (fo_99 rfl) (sh_35 n) rfl ?_
          refine xr_iconst_ _ (in_99 rfl) (show _ = (1 : Int32) by decide) ?_
          refine xr_iadd (in_99 rfl) ?_
          refine xq_put (in_99 rfl) (fo_99 rfl) (sh_35 n) rfl (Or.inl rfl) ?_
          obtain ⟨m1736, e1737, h⟩ := xs_e h
          rw [← e1737]
          clear e1737
          refine xr_iinc (a1728 + (1 : Int32)) [some (xv_r 35), some (xv_i a1726), some (xv_i a1727), some (xv_i (a1728 + (1 : Int32)))] (in_99 rfl) rfl (xi_1 _) (nl_99 rfl) rfl ?_
          refine xr_goto 85 (in_99 rfl) rfl ?_
          exact ih (a1728 + (1 : Int32)) m1736 h
        · replace h := (if_neg c1732).symm.trans h
          refine xr_ict 130 (in_99 rfl) rfl c1732 ?_
          refine xr_iinc (a1728 + (1 : Int32)) [some (xv_r 35), some (xv_i a1726), some (xv_i a1727), some (xv_i (a1728 + (1 : Int32)))] (in_99 rfl) rfl (xi_1 _) (nl_99 rfl) rfl ?_
          refine xr_goto 85 (in_99 rfl) rfl ?_
          exact ih (a1728 + (1 : Int32)) m1725 h
      · replace h := (if_neg c1730).symm.trans h
        refine xr_ict 130 (in_99 rfl) rfl c1730 ?_
        refine xr_iinc (a1728 + (1 : Int32)) [some (xv_r 35), some (xv_i a1726), some (xv_i a1727), some (xv_i (a1728 + (1 : Int32)))] (in_99 rfl) rfl (xi_1 _) (nl_99 rfl) rfl ?_
        refine xr_goto 85 (in_99 rfl) rfl ?_
        exact ih (a1728 + (1 : Int32)) m1725 h
def mm_findUntils (F : Nat) (a1 : Int32) (m : xm_S) : Option (xm_S) := mm_findUntils_l6 F a1 (fun (x1721 : Int32) (m1722 : xm_S) => xs_m (xw_i m1722 35 17 (0 : Int32)) fun m1723 => mm_findUntils_l85 F a1 x1721 (fun (m1738 : xm_S) => some m1738) F (0 : Int32) m1723) F ((1 : Int32) <<< (a1 &&& 31)) a1 m
theorem mm_findUntils_ok {xt : Nat → Nat × (Nat → Int32)} (n d : Nat) {F : Nat} {a1 : Int32} {m m' : xm_S} (h : mm_findUntils F a1 m = some m') : xm_Run pg xt (d + 1) 99 0 0 (xQ_v (sh n) m') 0 [some (xv_r 35), some (xv_i a1), none, none] [] (xq_2 (sh n) m) 0 0 := by
  unfold mm_findUntils at h
  refine xr_iconst_ _ (in_99 rfl) (show _ = (1 : Int32) by decide) ?_
  refine xr_iload_n (in_99 rfl) rfl ?_
  refine xr_ishl (in_99 rfl) ?_
  refine xr_istore_n [some (xv_r 35), some (xv_i a1), some (xv_i ((1 : Int32) <<< (a1 &&& 31))), none] (in_99 rfl) (nl_99 rfl) rfl ?_
  refine xr_iload_n (in_99 rfl) rfl ?_
  refine xr_istore_n [some (xv_r 35), some (xv_i a1), some (xv_i ((1 : Int32) <<< (a1 &&& 31))), some (xv_i a1)] (in_99 rfl) (nl_99 rfl) rfl ?_
  refine mm_findUntils_l6_ok n d (fun x1721 m1722 h => ?_) F ((1 : Int32) <<< (a1 &&& 31)) a1 m h
  refine xr_aload_n (in_99 rfl) rfl ?_
  refine xr_iconst_ _ (in_99 rfl) (show _ = (0 : Int32) by decide) ?_
  refine xq_put (in_99 rfl) (fo_99 rfl) (sh_35 n) rfl (Or.inl rfl) ?_
  obtain ⟨m1723, e1724, h⟩ := xs_e h
  rw [← e1724]
  clear e1724
  refine xr_iconst_ _ (in_99 rfl) (show _ = (0 : Int32) by decide) ?_
  refine xr_istore_n [some (xv_r 35), some (xv_i a1), some (xv_i x1721), some (xv_i (0 : Int32))] (in_99 rfl) (nl_99 rfl) rfl ?_
  refine mm_findUntils_l85_ok n d (fun m1738 h => ?_) F (0 : Int32) m1723 h
  obtain rfl := Option.some.inj h
  exact xr_vret (kd_99) (in_99 rfl) (Nat.le_refl _) (Nat.le_refl _) ⟨rfl, rfl⟩
def mm_stateOf_l2 (F : Nat) (a1746 : Int32) (a1747 : Int32) (k : xm_S → Option (Int32 × xm_S)) : Nat → Int32 → xm_S → Option (Int32 × xm_S)
  | 0, _, _ => none
  | fu + 1, a1748, m1745 => if (m1745.1 35 11) ≤ a1748 then k m1745 else xg_n a1748 17 (if (m1745.1 45 a1748.toNatClampNeg) = a1746 then xg_n a1748 17 (if (m1745.1 46 a1748.toNatClampNeg) = a1747 then some (a1748, m1745) else mm_stateOf_l2 F a1746 a1747 k fu (a1748 + (1 : Int32)) m1745) else mm_stateOf_l2 F a1746 a1747 k fu (a1748 + (1 : Int32)) m1745)
theorem mm_stateOf_l2_ok {xt : Nat → Nat × (Nat → Int32)} (n d : Nat) {F : Nat} {a1746 : Int32} {a1747 : Int32} {k : xm_S → Option (Int32 × xm_S)} {r : Int32} {m' : xm_S} 
    (hk : ∀ (m : xm_S), k m = some (r, m') → xm_Run pg xt d 100 0 0 (xQ_i (sh n) r m') 38 [some (xv_r 35), some (xv_i a1746), some (xv_i a1747), none] [] (xq_2 (sh n) m) 0 0) :
    ∀ (fu : Nat) (a1748 : Int32) (m1745 : xm_S), mm_stateOf_l2 F a1746 a1747 k fu a1748 m1745 = some (r, m') → xm_Run pg xt d 100 0 0 (xQ_i (sh n) r m') 2 [some (xv_r 35), some (xv_i a1746), some (xv_i a1747), some (xv_i a1748)] [] (xq_2 (sh n) m1745) 0 0 := by
  intro fu
  induction fu with
  | zero => intro a1748 m1745 h; cases h
  | succ fu ih =>
    intro a1748 m1745 h
    rw [mm_stateOf_l2] at h
    refine xr_iload_n (in_100 rfl) rfl ?_
    refine xr_aload_n (in_100 rfl) rfl ?_
    refine xq_geti (in_100 rfl) (fo_100 rfl) (sh_35 n) rfl ?_
    by_cases c1749 : (m1745.1 35 11) ≤ a1748
    · replace h := (if_pos c1749).symm.trans h
      refine xr_ict 38 (in_100 rfl) rfl c1749 ?_
      refine xr_forget (loc' := [some (xv_r 35), some (xv_i a1746), some (xv_i a1747), none]) (xl_s (xl_s (xl_s (xl_o xl_n)))) ?_
      exact hk m1745 h
    · replace h := (if_neg c1749).symm.trans h
      refine xr_icf 38 (in_100 rfl) rfl c1749 ?_
      refine xr_aload_n (in_100 rfl) rfl ?_
      refine xq_getr (in_100 rfl) (fo_100 rfl) (sh_35 n) rfl ?_
      refine xr_iload_n (in_100 rfl) rfl ?_
      obtain ⟨o1750, h⟩ := xg_e h
      refine xq_iald (in_100 rfl) (sh_45 n) o1750 ?_
      refine xr_iload_n (in_100 rfl) rfl ?_
      by_cases c1751 : (m1745.1 45 a1748.toNatClampNeg) = a1746
      · replace h := (if_pos c1751).symm.trans h
        refine xr_icf 32 (in_100 rfl) rfl (fun q => q c1751) ?_
        refine xr_aload_n (in_100 rfl) rfl ?_
        refine xq_getr (in_100 rfl) (fo_100 rfl) (sh_35 n) rfl ?_
        refine xr_iload_n (in_100 rfl) rfl ?_
        obtain ⟨o1752, h⟩ := xg_e h
        refine xq_iald (in_100 rfl) (sh_46 n) o1752 ?_
        refine xr_iload_n (in_100 rfl) rfl ?_
        by_cases c1753 : (m1745.1 46 a1748.toNatClampNeg) = a1747
        · replace h := (if_pos c1753).symm.trans h
          refine xr_icf 32 (in_100 rfl) rfl (fun q => q c1753) ?_
          refine xr_iload_n (in_100 rfl) rfl ?_
          obtain ⟨rfl, rfl⟩ := Prod.mk.inj (Option.some.inj h)
          exact xr_iret (kd_100) (in_100 rfl) (Nat.le_refl _) (Nat.le_refl _) ⟨rfl, rfl⟩
        · replace h := (if_neg c1753).symm.trans h
          refine xr_ict 32 (in_100 rfl) rfl c1753 ?_
          refine xr_iinc (a1748 + (1 : Int32)) [some (xv_r 35), some (xv_i a1746), some (xv_i a1747), some (xv_i (a1748 + (1 : Int32)))] (in_100 rfl) rfl (xi_1 _) (nl_100 rfl) rfl ?_
          refine xr_goto 2 (in_100 rfl) rfl ?_
          exact ih (a1748 + (1 : Int32)) m1745 h
      · replace h := (if_neg c1751).symm.trans h
        refine xr_ict 32 (in_100 rfl) rfl c1751 ?_
        refine xr_iinc (a1748 + (1 : Int32)) [some (xv_r 35), some (xv_i a1746), some (xv_i a1747), some (xv_i (a1748 + (1 : Int32)))] (in_100 rfl) rfl (xi_1 _) (nl_100 rfl) rfl ?_
        refine xr_goto 2 (in_100 rfl) rfl ?_
        exact ih (a1748 + (1 : Int32)) m1745 h
def mm_stateOf (F : Nat) (a1 : Int32) (a2 : Int32) (m : xm_S) : Option (Int32 × xm_S) := mm_stateOf_l2 F a1 a2 (fun (m1754 : xm_S) => xg_n (m1754.1 35 11) 17 (xs_m (xw_i m1754 45 (m1754.1 35 11).toNatClampNeg a1) fun m1756 => xg_n (m1756.1 35 11) 17 (xs_m (xw_i m1756 46 (m1756.1 35 11).toNatClampNeg a2) fun m1759 => xs_m (xw_i m1759 35 11 ((m1759.1 35 11) + (1 : Int32))) fun m1761 => some ((m1761.1 35 11) - (1 : Int32), m1761)))) F (0 : Int32) m
theorem mm_stateOf_ok {xt : Nat → Nat × (Nat → Int32)} (n d : Nat) {F : Nat} {a1 : Int32} {a2 : Int32} {m m' : xm_S} {r : Int32} (h : mm_stateOf F a1 a2 m = some (r, m')) : xm_Run pg xt d 100 0 0 (xQ_i (sh n) r m') 0 [some (xv_r 35), some (xv_i a1), some (xv_i a2), none] [] (xq_2 (sh n) m) 0 0 := by
  unfold mm_stateOf at h
  refine xr_iconst_ _ (in_100 rfl) (show _ = (0 : Int32) by decide) ?_
  refine xr_istore_n [some (xv_r 35), some (xv_i a1), some (xv_i a2), some (xv_i (0 : Int32))] (in_100 rfl) (nl_100 rfl) rfl ?_
  refine mm_stateOf_l2_ok n d (fun m1754 h => ?_) F (0 : Int32) m h
  refine xr_aload_n (in_100 rfl) rfl ?_
  refine xq_getr (in_100 rfl) (fo_100 rfl) (sh_35 n) rfl ?_
  refine xr_aload_n (in_100 rfl) rfl ?_
  refine xq_geti (in_100 rfl) (fo_100 rfl) (sh_35 n) rfl ?_
  refine xr_iload_n (in_100 rfl) rfl ?_
  obtain ⟨o1755, h⟩ := xg_e h
  refine xq_iast (in_100 rfl) (sh_45 n) o1755 ?_
  obtain ⟨m1756, e1757, h⟩ := xs_e h
  rw [← e1757]
  clear e1757
  refine xr_aload_n (in_100 rfl) rfl ?_
  refine xq_getr (in_100 rfl) (fo_100 rfl) (sh_35 n) rfl ?_
  refine xr_aload_n (in_100 rfl) rfl ?_
  refine xq_geti (in_100 rfl) (fo_100 rfl) (sh_35 n) rfl ?_
  refine xr_iload_n (in_100 rfl) rfl ?_
  obtain ⟨o1758, h⟩ := xg_e h
  refine xq_iast (in_100 rfl) (sh_46 n) o1758 ?_
  obtain ⟨m1759, e1760, h⟩ := xs_e h
  rw [← e1760]
  clear e1760
  refine xr_aload_n (in_100 rfl) rfl ?_
  refine xr_dup (in_100 rfl) rfl ?_
  refine xq_geti (in_100 rfl) (fo_100 rfl) (sh_35 n) rfl ?_
  refine xr_iconst_ _ (in_100 rfl) (show _ = (1 : Int32) by decide) ?_
  refine xr_iadd (in_100 rfl) ?_
  refine xq_put (in_100 rfl) (fo_100 rfl) (sh_35 n) rfl (Or.inl rfl) ?_
  obtain ⟨m1761, e1762, h⟩ := xs_e h
  rw [← e1762]
  clear e1762
  refine xr_aload_n (in_100 rfl) rfl ?_
  refine xq_geti (in_100 rfl) (fo_100 rfl) (sh_35 n) rfl ?_
  refine xr_iconst_ _ (in_100 rfl) (show _ = (1 : Int32) by decide) ?_
  refine xr_isub (in_100 rfl) ?_
  obtain ⟨rfl, rfl⟩ := Prod.mk.inj (Option.some.inj h)
  exact xr_iret (kd_100) (in_100 rfl) (Nat.le_refl _) (Nat.le_refl _) ⟨rfl, rfl⟩
def mm_keep_l3 (F : Nat) (a1811 : Int32) (a1812 : Int64) (k : Int32 → xm_S → Option (xm_S)) : Nat → Int32 → xm_S → Option (xm_S)
  | 0, _, _ => none
  | fu + 1, a1813, m1810 => if a1811 ≤ a1813 then k a1813 m1810 else xg_n a1813 61 (if (lg_cmp (m1810.2 44 a1813.toNatClampNeg) a1812) = 0 then k a1813 m1810 else mm_keep_l3 F a1811 a1812 k fu (a1813 + (1 : Int32)) m1810)
theorem mm_keep_l3_ok {xt : Nat → Nat × (Nat → Int32)} (n d : Nat) {F : Nat} {a1811 : Int32} {a1812 : Int64} {k : Int32 → xm_S → Option (xm_S)} {m' : xm_S} 
    (hk : ∀ (z4 : Int32) (m : xm_S), k z4 m = some m' → xm_Run pg xt d 102 0 0 (xQ_v (sh n) m') 27 [some (xv_r 35), some (xv_i a1811), some (xv_l a1812), none, some (xv_i z4)] [] (xq_2 (sh n) m) 0 0) :
    ∀ (fu : Nat) (a1813 : Int32) (m1810 : xm_S), mm_keep_l3 F a1811 a1812 k fu a1813 m1810 = some m' → xm_Run pg xt d 102 0 0 (xQ_v (sh n) m') 3 [some (xv_r 35), some (xv_i a1811), some (xv_l a1812), none, some (xv_i a1813)] [] (xq_2 (sh n) m1810) 0 0 := by
  intro fu
  induction fu with
  | zero => intro a1813 m1810 h; cases h
  | succ fu ih =>
    intro a1813 m1810 h
    rw [mm_keep_l3] at h
    refine xr_iload (in_102 rfl) rfl ?_
    refine xr_iload_n (in_102 rfl) rfl ?_
    by_cases c1814 : a1811 ≤ a1813
    · replace h := (if_pos c1814).symm.trans h
      refine xr_ict 27 (in_102 rfl) rfl c1814 ?_
      exact hk a1813 m1810 h
    · replace h := (if_neg c1814).symm.trans h
      refine xr_icf 27 (in_102 rfl) rfl c1814 ?_
      refine xr_aload_n (in_102 rfl) rfl ?_
      refine xq_getr (in_102 rfl) (fo_102 rfl) (sh_35 n) rfl ?_
      refine xr_iload (in_102 rfl) rfl ?_
      obtain ⟨o1815, h⟩ := xg_e h
      refine xq_lald (in_102 rfl) (sh_44 n) o1815 ?_
      refine xr_lload_n (in_102 rfl) rfl ?_
      refine xr_lcmp (in_102 rfl) ?_
      by_cases c1816 : (lg_cmp (m1810.2 44 a1813.toNatClampNeg) a1812) = 0
      · replace h := (if_pos c1816).symm.trans h
        refine xr_ift 27 (in_102 rfl) rfl c1816 ?_
        exact hk a1813 m1810 h
      · replace h := (if_neg c1816).symm.trans h
        refine xr_iff 27 (in_102 rfl) rfl c1816 ?_
        refine xr_iinc (a1813 + (1 : Int32)) [some (xv_r 35), some (xv_i a1811), some (xv_l a1812), none, some (xv_i (a1813 + (1 : Int32)))] (in_102 rfl) rfl (xi_1 _) (nl_102 rfl) rfl ?_
        refine xr_goto 3 (in_102 rfl) rfl ?_
        exact ih (a1813 + (1 : Int32)) m1810 h
def mm_keep (F : Nat) (a1 : Int32) (a2 : Int64) (m : xm_S) : Option (xm_S) := mm_keep_l3 F a1 a2 (fun (x1817 : Int32) (m1818 : xm_S) => if a1 ≤ x1817 then xj_j (fun (m1825 : xm_S) => xs_m (xw_i m1825 35 9 (a1 + (1 : Int32))) fun m1829 => some m1829) fun j1826 => if (61 : Int32) ≤ a1 then j1826 m1818 else xg_n a1 61 (xs_m (xw_l m1818 44 a1.toNatClampNeg a2) fun m1833 => j1826 m1833) else some m1818) F (0 : Int32) m
theorem mm_keep_ok {xt : Nat → Nat × (Nat → Int32)} (n d : Nat) {F : Nat} {a1 : Int32} {a2 : Int64} {m m' : xm_S} (h : mm_keep F a1 a2 m = some m') : xm_Run pg xt d 102 0 0 (xQ_v (sh n) m') 0 [some (xv_r 35), some (xv_i a1), some (xv_l a2), none, none] [] (xq_2 (sh n) m) 0 0 := by
  unfold mm_keep at h
  refine xr_iconst_ _ (in_102 rfl) (show _ = (0 : Int32) by decide) ?_
  refine xr_istore [some (xv_r 35), some (xv_i a1), some (xv_l a2), none, some (xv_i (0 : Int32))] (in_102 rfl) (nl_102 rfl) rfl ?_
  refine mm_keep_l3_ok n d (fun x1817 m1818 h => ?_) F (0 : Int32) m h
  refine xr_iload (in_102 rfl) rfl ?_
  refine xr_iload_n (in_102 rfl) rfl ?_
  by_cases c1819 : a1 ≤ x1817
  · replace h := (if_pos c1819).symm.trans h
    refine xr_ict 34 (in_102 rfl) rfl c1819 ?_
    refine xr_iload_n (in_102 rfl) rfl ?_
    refine xr_bipush_ _ (in_102 rfl) (show _ = (61 : Int32) by decide) ?_
    obtain ⟨j1826, e1827, h⟩ := xj_e h
    have q1828 : ∀ (m1825 : xm_S), j1826 m1825 = some m' → xm_Run pg xt d 102 0 0 (xQ_v (sh n) m') 47 [some (xv_r 35), some (xv_i a1), none, none, none] [] (xq_2 (sh n) m1825) 0 0 := by
      intro m1825 h
      rw [e1827] at h
      refine xr_aload_n (in_102 rfl) rfl ?_
      refine xr_iload_n (in_102 rfl) rfl ?_
      refine xr_iconst_ _ (in_102 rfl) (show _ = (1 : Int32) by decide) ?_
      refine xr_iadd (in_102 rfl) ?_
      refine xq_put (in_102 rfl) (fo_102 rfl) (sh_35 n) rfl (Or.inl rfl) ?_
      obtain ⟨m1829, e1830, h⟩ := xs_e h
      rw [← e1830]
      clear e1830
      obtain rfl := Option.some.inj h
      exact xr_vret (kd_102) (in_102 rfl) (Nat.le_refl _) (Nat.le_refl _) ⟨rfl, rfl⟩
    clear e1827
    by_cases c1831 : (61 : Int32) ≤ a1
    · replace h := (if_pos c1831).symm.trans h
      refine xr_ict 47 (in_102 rfl) rfl c1831 ?_
      refine xr_forget (loc' := [some (xv_r 35), some (xv_i a1), none, none, none]) (xl_s (xl_s (xl_o (xl_o (xl_o xl_n))))) ?_
      exact q1828 m1818 h
    · replace h := (if_neg c1831).symm.trans h
      refine xr_icf 47 (in_102 rfl) rfl c1831 ?_
      refine xr_aload_n (in_102 rfl) rfl ?_
      refine xq_getr (in_102 rfl) (fo_102 rfl) (sh_35 n) rfl ?_
      refine xr_iload_n (in_102 rfl) rfl ?_
      refine xr_lload_n (in_102 rfl) rfl ?_
      obtain ⟨o1832, h⟩ := xg_e h
      refine xq_last (in_102 rfl) (sh_44 n) o1832 ?_
      obtain ⟨m1833, e1834, h⟩ := xs_e h
      rw [← e1834]
      clear e1834
      refine xr_forget (loc' := [some (xv_r 35), some (xv_i a1), none, none, none]) (xl_s (xl_s (xl_o (xl_o (xl_o xl_n))))) ?_
      exact q1828 m1833 h
  · replace h := (if_neg c1819).symm.trans h
    refine xr_icf 34 (in_102 rfl) rfl c1819 ?_
    obtain rfl := Option.some.inj h
    exact xr_vret (kd_102) (in_102 rfl) (Nat.le_refl _) (Nat.le_refl _) ⟨rfl, rfl⟩
