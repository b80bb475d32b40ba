/-! Methods as functions, and that they run so (written by program). -/
def wt_find (F : Nat) (n : Nat) (a1 : Int32) (a2 : Int32) (m : xm_S) : Option (xm_S) := xg_n a1 28 (xg_n a1 28 (xg_n a1 28 (xc_v (wy_clear F 14 m) fun m314 => if (m.1 2 a1.toNatClampNeg) = (0 : Int32) then xc_v (wy_add F 14 (0 : Int64) m314) fun m361 => some m361 else if (m.1 2 a1.toNatClampNeg) = (2 : Int32) then if ((a2 >>> ((m.1 3 a1.toNatClampNeg) &&& 31)) &&& (1 : Int32)) = (if (m.1 2 a1.toNatClampNeg) = (2 : Int32) then (1 : Int32) else (0 : Int32)) then xc_v (wy_add F 14 (0 : Int64) m314) fun m368 => some m368 else some m314 else if (m.1 2 a1.toNatClampNeg) = (3 : Int32) then if ((a2 >>> ((m.1 3 a1.toNatClampNeg) &&& 31)) &&& (1 : Int32)) = (if (m.1 2 a1.toNatClampNeg) = (2 : Int32) then (1 : Int32) else (0 : Int32)) then xc_v (wy_add F 14 (0 : Int64) m314) fun m376 => some m376 else some m314 else if (m.1 2 a1.toNatClampNeg) = (4 : Int32) then xc_v (wt_findJoined F n (m.1 3 a1.toNatClampNeg) (m.1 4 a1.toNatClampNeg) a2 m314) fun m413 => some m413 else if (m.1 2 a1.toNatClampNeg) = (5 : Int32) then xc_v (wt_addEach F n 14 (m.1 3 a1.toNatClampNeg) a2 (0 : Int64) m314) fun m418 => xc_v (wt_addEach F n 14 (m.1 4 a1.toNatClampNeg) a2 (0 : Int64) m418) fun m422 => some m422 else if (m.1 2 a1.toNatClampNeg) = (6 : Int32) then xc_v (wy_add F 14 (wy_toHoldNext (m.1 3 a1.toNatClampNeg)) m314) fun m427 => some m427 else if (m.1 2 a1.toNatClampNeg) = (7 : Int32) then xc_v (wt_addEach F n 14 (m.1 4 a1.toNatClampNeg) a2 (0 : Int64) m314) fun m432 => xc_v (wt_addEach F n 14 (m.1 3 a1.toNatClampNeg) a2 ((wy_toHoldNext a1) ||| (wy_putOff a1)) m432) fun m436 => some m436 else if (m.1 2 a1.toNatClampNeg) = (8 : Int32) then xc_v (wt_findJoined F n (m.1 4 a1.toNatClampNeg) (m.1 3 a1.toNatClampNeg) a2 m314) fun m441 => xc_v (wt_addEach F n 14 (m.1 4 a1.toNatClampNeg) a2 (wy_toHoldNext a1) m441) fun m445 => some m445 else some m314)))
theorem wt_find_ok {xt : Nat → Nat × (Nat → Int32)} (n d : Nat) {F : Nat} {a1 : Int32} {a2 : Int32} {m m' : xm_S} (h : wt_find F n a1 a2 m = some m') : xm_Run pg xt (d + 3) 34 0 0 (xQ_v (sh n) m') 0 [some (xv_r 10), some (xv_i a1), some (xv_i a2), none, none, none] [] (xq_2 (sh n) m) 0 0 := by
  unfold wt_find at h
  refine xr_aload_n (in_34 rfl) rfl ?_
  refine xq_getr (in_34 rfl) (fo_34 rfl) (sh_10 n) rfl ?_
  refine xq_getr (in_34 rfl) (fo_34 rfl) (sh_1 n) rfl ?_
  refine xr_iload_n (in_34 rfl) rfl ?_
  obtain ⟨o306, h⟩ := xg_e h
  refine xq_iald (in_34 rfl) (sh_2 n) o306 ?_
  refine xr_istore_n [some (xv_r 10), some (xv_i a1), some (xv_i a2), some (xv_i (m.1 2 a1.toNatClampNeg)), none, none] (in_34 rfl) (nl_34 rfl) rfl ?_
  refine xr_aload_n (in_34 rfl) rfl ?_
  refine xq_getr (in_34 rfl) (fo_34 rfl) (sh_10 n) rfl ?_
  refine xq_getr (in_34 rfl) (fo_34 rfl) (sh_1 n) rfl ?_
  refine xr_iload_n (in_34 rfl) rfl ?_
  obtain ⟨o307, h⟩ := xg_e h
  refine xq_iald (in_34 rfl) (sh_3 n) o307 ?_
  refine xr_istore [some (xv_r 10), some (xv_i a1), some (xv_i a2), some (xv_i (m.1 2 a1.toNatClampNeg)), some (xv_i (m.1 3 a1.toNatClampNeg)), none] (in_34 rfl) (nl_34 rfl) rfl ?_
  refine xr_aload_n (in_34 rfl) rfl ?_
  refine xq_getr (in_34 rfl) (fo_34 rfl) (sh_10 n) rfl ?_
  refine xq_getr (in_34 rfl) (fo_34 rfl) (sh_1 n) rfl ?_
  refine xr_iload_n (in_34 rfl) rfl ?_
  obtain ⟨o308, h⟩ := xg_e h
  refine xq_iald (in_34 rfl) (sh_4 n) o308 ?_
  refine xr_istore [some (xv_r 10), some (xv_i a1), some (xv_i a2), some (xv_i (m.1 2 a1.toNatClampNeg)), some (xv_i (m.1 3 a1.toNatClampNeg)), some (xv_i (m.1 4 a1.toNatClampNeg))] (in_34 rfl) (nl_34 rfl) rfl ?_
  refine xr_aload_n (in_34 rfl) rfl ?_
  refine xq_getr (in_34 rfl) (fo_34 rfl) (sh_10 n) rfl ?_
  obtain ⟨m314, e315, h⟩ := xc_v_e h
  refine xq_callv [xv_r 14] [] [some (xv_r 14)] (xk_V (in_34 rfl) (sh_14 n)) (cl_34 rfl) rfl rfl rfl rfl (wy_clear_ok n (d + 2) xw_F e315) ?_
  refine xr_iload_n (in_34 rfl) rfl ?_
  by_cases c317 : (m.1 2 a1.toNatClampNeg) = (0 : Int32)
  · replace h := (if_pos c317).symm.trans h
    refine xr_swi 92 (in_34 rfl) (by rw [c317]; decide) (by rw [c317]; decide) (by rw [c317]; rfl) rfl ?_
    refine xr_aload_n (in_34 rfl) rfl ?_
    refine xq_getr (in_34 rfl) (fo_34 rfl) (sh_10 n) rfl ?_
    refine xr_lconst_ _ (in_34 rfl) (show _ = (0 : Int64) by decide) ?_
    obtain ⟨m361, e362, h⟩ := xc_v_e h
    refine xq_callv [xv_r 14, xv_l (0 : Int64)] [] [some (xv_r 14), some (xv_l (0 : Int64)), none, none, none, none] (xk_V (in_34 rfl) (sh_14 n)) (cl_34 rfl) rfl rfl rfl rfl (wy_add_ok n (d + 2) xw_F e362) ?_
    refine xr_goto 249 (in_34 rfl) rfl ?_
    obtain rfl := Option.some.inj h
    exact xr_vret (kd_34) (in_34 rfl) (Nat.le_refl _) (Nat.le_refl _) ⟨rfl, rfl⟩
  replace h := (if_neg c317).symm.trans h
  by_cases c364 : (m.1 2 a1.toNatClampNeg) = (2 : Int32)
  · replace h := (if_pos c364).symm.trans h
    refine xr_swi 103 (in_34 rfl) (by rw [c364]; decide) (by rw [c364]; decide) (by rw [c364]; rfl) rfl ?_
    refine xr_iload_n (in_34 rfl) rfl ?_
    refine xr_iload (in_34 rfl) rfl ?_
    refine xr_ishr (in_34 rfl) ?_
    refine xr_iconst_ _ (in_34 rfl) (show _ = (1 : Int32) by decide) ?_
    refine xr_iand (in_34 rfl) ?_
    refine xr_iload_n (in_34 rfl) rfl ?_
    refine xr_iconst_ _ (in_34 rfl) (show _ = (2 : Int32) by decide) ?_
    have q371 : xm_Run pg xt (d + 3) 34 0 0 (xQ_v (sh n) m') 119 [some (xv_r 10), none, none, none, none, none] [xv_i (if (m.1 2 a1.toNatClampNeg) = (2 : Int32) then (1 : Int32) else (0 : Int32)), xv_i ((a2 >>> ((m.1 3 a1.toNatClampNeg) &&& 31)) &&& (1 : Int32))] (xq_2 (sh n) m314) 0 0 := by
      by_cases c366 : ((a2 >>> ((m.1 3 a1.toNatClampNeg) &&& 31)) &&& (1 : Int32)) = (if (m.1 2 a1.toNatClampNeg) = (2 : Int32) then (1 : Int32) else (0 : Int32))
      · replace h := (if_pos c366).symm.trans h
        refine xr_icf 249 (in_34 rfl) rfl (fun q => q c366) ?_
        refine xr_aload_n (in_34 rfl) rfl ?_
        refine xq_getr (in_34 rfl) (fo_34 rfl) (sh_10 n) rfl ?_
        refine xr_lconst_ _ (in_34 rfl) (show _ = (0 : Int64) by decide) ?_
        obtain ⟨m368, e369, h⟩ := xc_v_e h
        refine xq_callv [xv_r 14, xv_l (0 : Int64)] [] [some (xv_r 14), some (xv_l (0 : Int64)), none, none, none, none] (xk_V (in_34 rfl) (sh_14 n)) (cl_34 rfl) rfl rfl rfl rfl (wy_add_ok n (d + 2) xw_F e369) ?_
        refine xr_goto 249 (in_34 rfl) rfl ?_
        obtain rfl := Option.some.inj h
        exact xr_vret (kd_34) (in_34 rfl) (Nat.le_refl _) (Nat.le_refl _) ⟨rfl, rfl⟩
      · replace h := (if_neg c366).symm.trans h
        refine xr_ict 249 (in_34 rfl) rfl c366 ?_
        obtain rfl := Option.some.inj h
        exact xr_vret (kd_34) (in_34 rfl) (Nat.le_refl _) (Nat.le_refl _) ⟨rfl, rfl⟩
    by_cases c365 : (m.1 2 a1.toNatClampNeg) = (2 : Int32)
    · refine xr_icf 118 (in_34 rfl) rfl (fun q => q c365) ?_
      refine xr_iconst_ _ (in_34 rfl) (show _ = (1 : Int32) by decide) ?_
      refine xr_goto 119 (in_34 rfl) rfl ?_
      refine xr_forget (loc' := [some (xv_r 10), none, none, none, none, none]) (xl_s (xl_o (xl_o (xl_o (xl_o (xl_o xl_n)))))) ?_
      rw [show (if (m.1 2 a1.toNatClampNeg) = (2 : Int32) then (1 : Int32) else (0 : Int32)) = (1 : Int32) by rw [if_pos c365]] at q371
      exact q371
    · refine xr_ict 118 (in_34 rfl) rfl c365 ?_
      refine xr_iconst_ _ (in_34 rfl) (show _ = (0 : Int32) by decide) ?_
      refine xr_forget (loc' := [some (xv_r 10), none, none, none, none, none]) (xl_s (xl_o (xl_o (xl_o (xl_o (xl_o xl_n)))))) ?_
      rw [show (if (m.1 2 a1.toNatClampNeg) = (2 : Int32) then (1 : Int32) else (0 : Int32)) = (0 : Int32) by rw [if_neg c365]] at q371
      exact q371
  replace h := (if_neg c364).symm.trans h
  by_cases c372 : (m.1 2 a1.toNatClampNeg) = (3 : Int32)
  · replace h := (if_pos c372).symm.trans h
    refine xr_swi 103 (in_34 rfl) (by rw [c372]; decide) (by rw [c372]; decide) (by rw [c372]; rfl) rfl ?_
    refine xr_iload_n (in_34 rfl) rfl ?_
    refine xr_iload (in_34 rfl) rfl ?_
    refine xr_ishr (in_34 rfl) ?_
    refine xr_iconst_ _ (in_34 rfl) (show _ = (1 : Int32) by decide) ?_
    refine xr_iand (in_34 rfl) ?_
    refine xr_iload_n (in_34 rfl) rfl ?_
    refine xr_iconst_ _ (in_34 rfl) (show _ = (2 : Int32) by decide) ?_
    have q379 : xm_Run pg xt (d + 3) 34 0 0 (xQ_v (sh n) m') 119 [some (xv_r 10), none, none, none, none, none] [xv_i (if (m.1 2 a1.toNatClampNeg) = (2 : Int32) then (1 : Int32) else (0 : Int32)), xv_i ((a2 >>> ((m.1 3 a1.toNatClampNeg) &&& 31)) &&& (1 : Int32))] (xq_2 (sh n) m314) 0 0 := by
      by_cases c374 : ((a2 >>> ((m.1 3 a1.toNatClampNeg) &&& 31)) &&& (1 : Int32)) = (if (m.1 2 a1.toNatClampNeg) = (2 : Int32) then (1 : Int32) else (0 : Int32))
      · replace h := (if_pos c374).symm.trans h
        refine xr_icf 249 (in_34 rfl) rfl (fun q => q c374) ?_
        refine xr_aload_n (in_34 rfl) rfl ?_
        refine xq_getr (in_34 rfl) (fo_34 rfl) (sh_10 n) rfl ?_
        refine xr_lconst_ _ (in_34 rfl) (show _ = (0 : Int64) by decide) ?_
        obtain ⟨m376, e377, h⟩ := xc_v_e h
        refine xq_callv [xv_r 14, xv_l (0 : Int64)] [] [some (xv_r 14), some (xv_l (0 : Int64)), none, none, none, none] (xk_V (in_34 rfl) (sh_14 n)) (cl_34 rfl) rfl rfl rfl rfl (wy_add_ok n (d + 2) xw_F e377) ?_
        refine xr_goto 249 (in_34 rfl) rfl ?_
        obtain rfl := Option.some.inj h
        exact xr_vret (kd_34) (in_34 rfl) (Nat.le_refl _) (Nat.le_refl _) ⟨rfl, rfl⟩
      · replace h := (if_neg c374).symm.trans h
        refine xr_ict 249 (in_34 rfl) rfl c374 ?_
        obtain rfl := Option.some.inj h
        exact xr_vret (kd_34) (in_34 rfl) (Nat.le_refl _) (Nat.le_refl _) ⟨rfl, rfl⟩
    by_cases c373 : (m.1 2 a1.toNatClampNeg) = (2 : Int32)
    · refine xr_icf 118 (in_34 rfl) rfl (fun q => q c373) ?_
      refine xr_iconst_ _ (in_34 rfl) (show _ = (1 : Int32) by decide) ?_
      refine xr_goto 119 (in_34 rfl) rfl ?_
      refine xr_forget (loc' := [some (xv_r 10), none, none, none, none, none]) (xl_s (xl_o (xl_o (xl_o (xl_o (xl_o xl_n)))))) ?_
      rw [show (if (m.1 2 a1.toNatClampNeg) = (2 : Int32) then (1 : Int32) else (0 : Int32)) = (1 : Int32) by rw [if_pos c373]] at q379
      exact q379
    · refine xr_ict 118 (in_34 rfl) rfl c373 ?_
      refine xr_iconst_ _ (in_34 rfl) (show _ = (0 : Int32) by decide) ?_
      refine xr_forget (loc' := [some (xv_r 10), none, none, none, none, none]) (xl_s (xl_o (xl_o (xl_o (xl_o (xl_o xl_n)))))) ?_
      rw [show (if (m.1 2 a1.toNatClampNeg) = (2 : Int32) then (1 : Int32) else (0 : Int32)) = (0 : Int32) by rw [if_neg c373]] at q379
      exact q379
  replace h := (if_neg c372).symm.trans h
  by_cases c380 : (m.1 2 a1.toNatClampNeg) = (4 : Int32)
  · replace h := (if_pos c380).symm.trans h
    refine xr_swi 133 (in_34 rfl) (by rw [c380]; decide) (by rw [c380]; decide) (by rw [c380]; rfl) rfl ?_
    refine xr_aload_n (in_34 rfl) rfl ?_
    refine xr_iload (in_34 rfl) rfl ?_
    refine xr_iload (in_34 rfl) rfl ?_
    refine xr_iload_n (in_34 rfl) rfl ?_
    obtain ⟨m413, e414, h⟩ := xc_v_e h
    refine xq_callv [xv_r 10, xv_i (m.1 3 a1.toNatClampNeg), xv_i (m.1 4 a1.toNatClampNeg), xv_i a2] [] [some (xv_r 10), some (xv_i (m.1 3 a1.toNatClampNeg)), some (xv_i (m.1 4 a1.toNatClampNeg)), some (xv_i a2), none, none] (xk_V (in_34 rfl) (sh_10 n)) (cl_34 rfl) rfl rfl rfl rfl (wt_findJoined_ok n d e414) ?_
    refine xr_goto 249 (in_34 rfl) rfl ?_
    obtain rfl := Option.some.inj h
    exact xr_vret (kd_34) (in_34 rfl) (Nat.le_refl _) (Nat.le_refl _) ⟨rfl, rfl⟩
  replace h := (if_neg c380).symm.trans h
  by_cases c416 : (m.1 2 a1.toNatClampNeg) = (5 : Int32)
  · replace h := (if_pos c416).symm.trans h
    refine xr_swi 145 (in_34 rfl) (by rw [c416]; decide) (by rw [c416]; decide) (by rw [c416]; rfl) rfl ?_
    refine xr_aload_n (in_34 rfl) rfl ?_
    refine xr_aload_n (in_34 rfl) rfl ?_
    refine xq_getr (in_34 rfl) (fo_34 rfl) (sh_10 n) rfl ?_
    refine xr_iload (in_34 rfl) rfl ?_
    refine xr_iload_n (in_34 rfl) rfl ?_
    refine xr_lconst_ _ (in_34 rfl) (show _ = (0 : Int64) by decide) ?_
    obtain ⟨m418, e419, h⟩ := xc_v_e h
    refine xq_callv [xv_r 10, xv_r 14, xv_i (m.1 3 a1.toNatClampNeg), xv_i a2, xv_l (0 : Int64)] [] [some (xv_r 10), some (xv_r 14), some (xv_i (m.1 3 a1.toNatClampNeg)), some (xv_i a2), some (xv_l (0 : Int64)), none, none, none] (xk_V (in_34 rfl) (sh_10 n)) (cl_34 rfl) rfl rfl rfl rfl (wt_addEach_ok n (d + 1) xw_F e419) ?_
    refine xr_aload_n (in_34 rfl) rfl ?_
    refine xr_aload_n (in_34 rfl) rfl ?_
    refine xq_getr (in_34 rfl) (fo_34 rfl) (sh_10 n) rfl ?_
    refine xr_iload (in_34 rfl) rfl ?_
    refine xr_iload_n (in_34 rfl) rfl ?_
    refine xr_lconst_ _ (in_34 rfl) (show _ = (0 : Int64) by decide) ?_
    obtain ⟨m422, e423, h⟩ := xc_v_e h
    refine xq_callv [xv_r 10, xv_r 14, xv_i (m.1 4 a1.toNatClampNeg), xv_i a2, xv_l (0 : Int64)] [] [some (xv_r 10), some (xv_r 14), some (xv_i (m.1 4 a1.toNatClampNeg)), some (xv_i a2), some (xv_l (0 : Int64)), none, none, none] (xk_V (in_34 rfl) (sh_10 n)) (cl_34 rfl) rfl rfl rfl rfl (wt_addEach_ok n (d + 1) xw_F e423) ?_
    refine xr_goto 249 (in_34 rfl) rfl ?_
    obtain rfl := Option.some.inj h
    exact xr_vret (kd_34) (in_34 rfl) (Nat.le_refl _) (Nat.le_refl _) ⟨rfl, rfl⟩
  replace h := (if_neg c416).symm.trans h
  by_cases c425 : (m.1 2 a1.toNatClampNeg) = (6 : Int32)
  · replace h := (if_pos c425).symm.trans h
    refine xr_swi 172 (in_34 rfl) (by rw [c425]; decide) (by rw [c425]; decide) (by rw [c425]; rfl) rfl ?_
    refine xr_aload_n (in_34 rfl) rfl ?_
    refine xq_getr (in_34 rfl) (fo_34 rfl) (sh_10 n) rfl ?_
    refine xr_iload (in_34 rfl) rfl ?_
    refine xq_calla [xv_i (m.1 3 a1.toNatClampNeg)] [xv_r 14] [some (xv_i (m.1 3 a1.toNatClampNeg))] (xk_S (in_34 rfl)) (cl_34 rfl) rfl rfl rfl rfl (wy_toHoldNext_ok n (d + 2) rfl) ?_
    obtain ⟨m427, e428, h⟩ := xc_v_e h
    refine xq_callv [xv_r 14, xv_l (wy_toHoldNext (m.1 3 a1.toNatClampNeg))] [] [some (xv_r 14), some (xv_l (wy_toHoldNext (m.1 3 a1.toNatClampNeg))), none, none, none, none] (xk_V (in_34 rfl) (sh_14 n)) (cl_34 rfl) rfl rfl rfl rfl (wy_add_ok n (d + 2) xw_F e428) ?_
    refine xr_goto 249 (in_34 rfl) rfl ?_
    obtain rfl := Option.some.inj h
    exact xr_vret (kd_34) (in_34 rfl) (Nat.le_refl _) (Nat.le_refl _) ⟨rfl, rfl⟩
  replace h := (if_neg c425).symm.trans h
  by_cases c430 : (m.1 2 a1.toNatClampNeg) = (7 : Int32)
  · replace h := (if_pos c430).symm.trans h
    refine xr_swi 187 (in_34 rfl) (by rw [c430]; decide) (by rw [c430]; decide) (by rw [c430]; rfl) rfl ?_
    refine xr_aload_n (in_34 rfl) rfl ?_
    refine xr_aload_n (in_34 rfl) rfl ?_
    refine xq_getr (in_34 rfl) (fo_34 rfl) (sh_10 n) rfl ?_
    refine xr_iload (in_34 rfl) rfl ?_
    refine xr_iload_n (in_34 rfl) rfl ?_
    refine xr_lconst_ _ (in_34 rfl) (show _ = (0 : Int64) by decide) ?_
    obtain ⟨m432, e433, h⟩ := xc_v_e h
    refine xq_callv [xv_r 10, xv_r 14, xv_i (m.1 4 a1.toNatClampNeg), xv_i a2, xv_l (0 : Int64)] [] [some (xv_r 10), some (xv_r 14), some (xv_i (m.1 4 a1.toNatClampNeg)), some (xv_i a2), some (xv_l (0 : Int64)), none, none, none] (xk_V (in_34 rfl) (sh_10 n)) (cl_34 rfl) rfl rfl rfl rfl (wt_addEach_ok n (d + 1) xw_F e433) ?_
    refine xr_aload_n (in_34 rfl) rfl ?_
    refine xr_aload_n (in_34 rfl) rfl ?_
    refine xq_getr (in_34 rfl) (fo_34 rfl) (sh_10 n) rfl ?_
    refine xr_iload (in_34 rfl) rfl ?_
    refine xr_iload_n (in_34 rfl) rfl ?_
    refine xr_iload_n (in_34 rfl) rfl ?_
    refine xq_calla [xv_i a1] [xv_i a2, xv_i (m.1 3 a1.toNatClampNeg), xv_r 14, xv_r 10] [some (xv_i a1)] (xk_S (in_34 rfl)) (cl_34 rfl) rfl rfl rfl rfl (wy_toHoldNext_ok n (d + 2) rfl) ?_
    refine xr_iload_n (in_34 rfl) rfl ?_
    refine xq_calla [xv_i a1] [xv_l (wy_toHoldNext a1), xv_i a2, xv_i (m.1 3 a1.toNatClampNeg), xv_r 14, xv_r 10] [some (xv_i a1)] (xk_S (in_34 rfl)) (cl_34 rfl) rfl rfl rfl rfl (wy_putOff_ok n (d + 2) rfl) ?_
    refine xr_lor (in_34 rfl) ?_
    obtain ⟨m436, e437, h⟩ := xc_v_e h
    refine xq_callv [xv_r 10, xv_r 14, xv_i (m.1 3 a1.toNatClampNeg), xv_i a2, xv_l ((wy_toHoldNext a1) ||| (wy_putOff a1))] [] [some (xv_r 10), some (xv_r 14), some (xv_i (m.1 3 a1.toNatClampNeg)), some (xv_i a2), some (xv_l ((wy_toHoldNext a1) ||| (wy_putOff a1))), none, none, none] (xk_V (in_34 rfl) (sh_10 n)) (cl_34 rfl) rfl rfl rfl rfl (wt_addEach_ok n (d + 1) xw_F e437) ?_
    refine xr_goto 249 (in_34 rfl) rfl ?_
    obtain rfl := Option.some.inj h
    exact xr_vret (kd_34) (in_34 rfl) (Nat.le_refl _) (Nat.le_refl _) ⟨rfl, rfl⟩
  replace h := (if_neg c430).symm.trans h
  by_cases c439 : (m.1 2 a1.toNatClampNeg) = (8 : Int32)
  · replace h := (if_pos c439).symm.trans h
    refine xr_swi 222 (in_34 rfl) (by rw [c439]; decide) (by rw [c439]; decide) (by rw [c439]; rfl) rfl ?_
    refine xr_aload_n (in_34 rfl) rfl ?_
    refine xr_iload (in_34 rfl) rfl ?_
    refine xr_iload (in_34 rfl) rfl ?_
    refine xr_iload_n (in_34 rfl) rfl ?_
    obtain ⟨m441, e442, h⟩ := xc_v_e h
    refine xq_callv [xv_r 10, xv_i (m.1 4 a1.toNatClampNeg), xv_i (m.1 3 a1.toNatClampNeg), xv_i a2] [] [some (xv_r 10), some (xv_i (m.1 4 a1.toNatClampNeg)), some (xv_i (m.1 3 a1.toNatClampNeg)), some (xv_i a2), none, none] (xk_V (in_34 rfl) (sh_10 n)) (cl_34 rfl) rfl rfl rfl rfl (wt_findJoined_ok n d e442) ?_
    refine xr_aload_n (in_34 rfl) rfl ?_
    refine xr_aload_n (in_34 rfl) rfl ?_
    refine xq_getr (in_34 rfl) (fo_34 rfl) (sh_10 n) rfl ?_
    refine xr_iload (in_34 rfl) rfl ?_
    refine xr_iload_n (in_34 rfl) rfl ?_
    refine xr_iload_n (in_34 rfl) rfl ?_
    refine xq_calla [xv_i a1] [xv_i a2, xv_i (m.1 4 a1.toNatClampNeg), xv_r 14, xv_r 10] [some (xv_i a1)] (xk_S (in_34 rfl)) (cl_34 rfl) rfl rfl rfl rfl (wy_toHoldNext_ok n (d + 2) rfl) ?_
    obtain ⟨m445, e446, h⟩ := xc_v_e h
    refine xq_callv [xv_r 10, xv_r 14, xv_i (m.1 4 a1.toNatClampNeg), xv_i a2, xv_l (wy_toHoldNext a1)] [] [some (xv_r 10), some (xv_r 14), some (xv_i (m.1 4 a1.toNatClampNeg)), some (xv_i a2), some (xv_l (wy_toHoldNext a1)), none, none, none] (xk_V (in_34 rfl) (sh_10 n)) (cl_34 rfl) rfl rfl rfl rfl (wt_addEach_ok n (d + 1) xw_F e446) ?_
    refine xr_goto 249 (in_34 rfl) rfl ?_
    obtain rfl := Option.some.inj h
    exact xr_vret (kd_34) (in_34 rfl) (Nat.le_refl _) (Nat.le_refl _) ⟨rfl, rfl⟩
  replace h := (if_neg c439).symm.trans h
  have c317z : (m.1 2 a1.toNatClampNeg).toInt ≠ 0 := fun q => c317 (Int32.toInt_inj.mp (q.trans (by decide)))
  have c364z : (m.1 2 a1.toNatClampNeg).toInt ≠ 2 := fun q => c364 (Int32.toInt_inj.mp (q.trans (by decide)))
  have c372z : (m.1 2 a1.toNatClampNeg).toInt ≠ 3 := fun q => c372 (Int32.toInt_inj.mp (q.trans (by decide)))
  have c380z : (m.1 2 a1.toNatClampNeg).toInt ≠ 4 := fun q => c380 (Int32.toInt_inj.mp (q.trans (by decide)))
  have c416z : (m.1 2 a1.toNatClampNeg).toInt ≠ 5 := fun q => c416 (Int32.toInt_inj.mp (q.trans (by decide)))
  have c425z : (m.1 2 a1.toNatClampNeg).toInt ≠ 6 := fun q => c425 (Int32.toInt_inj.mp (q.trans (by decide)))
  have c430z : (m.1 2 a1.toNatClampNeg).toInt ≠ 7 := fun q => c430 (Int32.toInt_inj.mp (q.trans (by decide)))
  have c439z : (m.1 2 a1.toNatClampNeg).toInt ≠ 8 := fun q => c439 (Int32.toInt_inj.mp (q.trans (by decide)))
  by_cases c448 : (m.1 2 a1.toNatClampNeg) = (1 : Int32)
  · refine xr_swi 249 (in_34 rfl) (by rw [c448]; decide) (by rw [c448]; decide) (by rw [c448]; rfl) rfl ?_
    obtain rfl := Option.some.inj h
    exact xr_vret (kd_34) (in_34 rfl) (Nat.le_refl _) (Nat.le_refl _) ⟨rfl, rfl⟩
  have c448z : (m.1 2 a1.toNatClampNeg).toInt ≠ 1 := fun q => c448 (Int32.toInt_inj.mp (q.trans (by decide)))
  refine xr_swo 249 (in_34 rfl) (by omega) rfl ?_
  obtain rfl := Option.some.inj h
  exact xr_vret (kd_34) (in_34 rfl) (Nat.le_refl _) (Nat.le_refl _) ⟨rfl, rfl⟩
def wt_keepFound (F : Nat) (n : Nat) (a1 : Int32) (m : xm_S) : Option (Nat × xm_S) := if (m.1 14 2) = 0 then xj_j (fun (n461 : Nat) (m462 : xm_S) => xg_c (0 : Int32) (m462.1 10 4) (m462.1 14 1) 60 (xk_l n461) (xs_m (xw_c m462 (xk_c n461) 15 (0 : Int32).toNatClampNeg (m462.1 10 4).toNatClampNeg (m462.1 14 1).toNatClampNeg) fun m467 => xg_n a1 448 (xs_m (xw_i m467 11 a1.toNatClampNeg (m467.1 10 4)) fun m470 => xg_n a1 448 (xs_m (xw_i m470 12 a1.toNatClampNeg (m470.1 14 1)) fun m473 => xs_m (xw_i m473 10 4 ((m473.1 10 4) + (m473.1 14 1))) fun m475 => some (n461, m475))))) fun j463 => if ((m.1 10 4) + (m.1 14 1)) ≤ (nI (xk_l n)) then j463 n m else xg_y ((2 : Int32) * (nI (xk_l n))) n (xs_m (xw_g m n) fun m479 => j463 (n + 1) m479) else xg_n a1 448 (xs_m (xw_i m 12 a1.toNatClampNeg (-2 : Int32)) fun m483 => some (n, m483))
theorem wt_keepFound_ok {xt : Nat → Nat × (Nat → Int32)} (n d : Nat) {F : Nat} {a1 : Int32} {m m' : xm_S} {n' C0 S0 nc ns : Nat} (hnc : nc + n' ≤ C0 + n) (hns : ns + xk_s n' ≤ S0 + xk_s n) (h : wt_keepFound F n a1 m = some (n', m')) : xm_Run pg xt (d + 2) 41 C0 S0 (xQ_v (sh n') m') 0 [some (xv_r 10), some (xv_i a1)] [] (xq_2 (sh n) m) nc ns := by
  unfold wt_keepFound at h
  refine xr_aload_n (in_41 rfl) rfl ?_
  refine xq_getr (in_41 rfl) (fo_41 rfl) (sh_10 n) rfl ?_
  refine xq_geti (in_41 rfl) (fo_41 rfl) (sh_14 n) rfl ?_
  by_cases c454 : (m.1 14 2) = 0
  · replace h := (if_pos c454).symm.trans h
    refine xr_ift 19 (in_41 rfl) rfl c454 ?_
    refine xr_aload_n (in_41 rfl) rfl ?_
    refine xq_geti (in_41 rfl) (fo_41 rfl) (sh_10 n) rfl ?_
    refine xr_aload_n (in_41 rfl) rfl ?_
    refine xq_getr (in_41 rfl) (fo_41 rfl) (sh_10 n) rfl ?_
    refine xq_geti (in_41 rfl) (fo_41 rfl) (sh_14 n) rfl ?_
    refine xr_iadd (in_41 rfl) ?_
    refine xr_aload_n (in_41 rfl) rfl ?_
    refine xq_getr (in_41 rfl) (fo_41 rfl) (sh_10 n) rfl ?_
    refine xq_alen (in_41 rfl) (sh_k n) (by decide) ?_
    obtain ⟨j463, e464, h⟩ := xj_e h
    have q465 : ∀ (n461 : Nat) (m462 : xm_S) (nc ns : Nat), nc + n' ≤ C0 + n461 → ns + xk_s n' ≤ S0 + xk_s n461 → j463 n461 m462 = some (n', m') → xm_Run pg xt (d + 2) 41 C0 S0 (xQ_v (sh n') m') 57 [some (xv_r 10), some (xv_i a1)] [] (xq_2 (sh n461) m462) nc ns := by
      intro n461 m462 nc ns hnc hns h
      rw [e464] at h
      refine xr_aload_n (in_41 rfl) rfl ?_
      refine xq_getr (in_41 rfl) (fo_41 rfl) (sh_10 n461) rfl ?_
      refine xq_getr (in_41 rfl) (fo_41 rfl) (sh_14 n461) rfl ?_
      refine xr_iconst_ _ (in_41 rfl) (show _ = (0 : Int32) by decide) ?_
      refine xr_aload_n (in_41 rfl) rfl ?_
      refine xq_getr (in_41 rfl) (fo_41 rfl) (sh_10 n461) rfl ?_
      refine xr_aload_n (in_41 rfl) rfl ?_
      refine xq_geti (in_41 rfl) (fo_41 rfl) (sh_10 n461) rfl ?_
      refine xr_aload_n (in_41 rfl) rfl ?_
      refine xq_getr (in_41 rfl) (fo_41 rfl) (sh_10 n461) rfl ?_
      refine xq_geti (in_41 rfl) (fo_41 rfl) (sh_14 n461) rfl ?_
      obtain ⟨⟨o466a, o466b, o466c, o466d, o466e⟩, h⟩ := xg_c_e h
      refine xq_copy (in_41 rfl) (xo_41 rfl) rfl (sh_15 n461) (sh_k n461) o466a o466b o466c o466d o466e (xk_ne n461) ?_
      obtain ⟨m467, e468, h⟩ := xs_e h
      rw [← e468]
      clear e468
      refine xr_aload_n (in_41 rfl) rfl ?_
      refine xq_getr (in_41 rfl) (fo_41 rfl) (sh_10 n461) rfl ?_
      refine xr_iload_n (in_41 rfl) rfl ?_
      refine xr_aload_n (in_41 rfl) rfl ?_
      refine xq_geti (in_41 rfl) (fo_41 rfl) (sh_10 n461) rfl ?_
      obtain ⟨o469, h⟩ := xg_e h
      refine xq_iast (in_41 rfl) (sh_11 n461) o469 ?_
      obtain ⟨m470, e471, h⟩ := xs_e h
      rw [← e471]
      clear e471
      refine xr_aload_n (in_41 rfl) rfl ?_
      refine xq_getr (in_41 rfl) (fo_41 rfl) (sh_10 n461) rfl ?_
      refine xr_iload_n (in_41 rfl) rfl ?_
      refine xr_aload_n (in_41 rfl) rfl ?_
      refine xq_getr (in_41 rfl) (fo_41 rfl) (sh_10 n461) rfl ?_
      refine xq_geti (in_41 rfl) (fo_41 rfl) (sh_14 n461) rfl ?_
      obtain ⟨o472, h⟩ := xg_e h
      refine xq_iast (in_41 rfl) (sh_12 n461) o472 ?_
      obtain ⟨m473, e474, h⟩ := xs_e h
      rw [← e474]
      clear e474
      refine xr_aload_n (in_41 rfl) rfl ?_
      refine xr_dup (in_41 rfl) rfl ?_
      refine xq_geti (in_41 rfl) (fo_41 rfl) (sh_10 n461) rfl ?_
      refine xr_aload_n (in_41 rfl) rfl ?_
      refine xq_getr (in_41 rfl) (fo_41 rfl) (sh_10 n461) rfl ?_
      refine xq_geti (in_41 rfl) (fo_41 rfl) (sh_14 n461) rfl ?_
      refine xr_iadd (in_41 rfl) ?_
      refine xq_put (in_41 rfl) (fo_41 rfl) (sh_10 n461) rfl (Or.inl rfl) ?_
      obtain ⟨m475, e476, h⟩ := xs_e h
      rw [← e476]
      clear e476
      obtain ⟨rfl, rfl⟩ := Prod.mk.inj (Option.some.inj h)
      exact xr_vret (kd_41) (in_41 rfl) (by omega) (by omega) ⟨rfl, rfl⟩
    clear e464
    by_cases c477 : ((m.1 10 4) + (m.1 14 1)) ≤ (nI (xk_l n))
    · replace h := (if_pos c477).symm.trans h
      refine xr_ict 57 (in_41 rfl) rfl c477 ?_
      exact q465 n m _ _ (by omega) (by omega) h
    · replace h := (if_neg c477).symm.trans h
      refine xr_icf 57 (in_41 rfl) rfl c477 ?_
      refine xr_aload_n (in_41 rfl) rfl ?_
      refine xr_aload_n (in_41 rfl) rfl ?_
      refine xq_getr (in_41 rfl) (fo_41 rfl) (sh_10 n) rfl ?_
      refine xr_iconst_ _ (in_41 rfl) (show _ = (2 : Int32) by decide) ?_
      refine xr_aload_n (in_41 rfl) rfl ?_
      refine xq_getr (in_41 rfl) (fo_41 rfl) (sh_10 n) rfl ?_
      refine xq_alen (in_41 rfl) (sh_k n) (by decide) ?_
      refine xr_imul (in_41 rfl) ?_
      obtain ⟨o478, h⟩ := xg_y_e h
      refine xq_callan (c1 := 1) (s1 := xk_l (n + 1)) [xv_r (xk_c n), xv_i ((2 : Int32) * (nI (xk_l n)))] [xv_r 10] [some (xv_r (xk_c n)), some (xv_i ((2 : Int32) * (nI (xk_l n)))), none] (xk_S (in_41 rfl)) (cl_41 rfl) rfl rfl rfl rfl (ja_copyOf_ok n d o478) ?_
      obtain ⟨m479, e480, h⟩ := xs_e h
      rw [← e480]
      clear e480
      have xsz481 := xk_s_s n
      refine xq_putr (sh (n + 1)) (in_41 rfl) (fo_41 rfl) (Or.inl rfl) (sh_g10 n) rfl (sh_grow n) ?_
      exact q465 (n + 1) m479 _ _ (by omega) (by omega) h
  · replace h := (if_neg c454).symm.trans h
    refine xr_iff 19 (in_41 rfl) rfl c454 ?_
    refine xr_aload_n (in_41 rfl) rfl ?_
    refine xq_getr (in_41 rfl) (fo_41 rfl) (sh_10 n) rfl ?_
    refine xr_iload_n (in_41 rfl) rfl ?_
    refine xr_bipush_ _ (in_41 rfl) (show _ = (-2 : Int32) by decide) ?_
    obtain ⟨o482, h⟩ := xg_e h
    refine xq_iast (in_41 rfl) (sh_12 n) o482 ?_
    obtain ⟨m483, e484, h⟩ := xs_e h
    rw [← e484]
    clear e484
    obtain ⟨rfl, rfl⟩ := Prod.mk.inj (Option.some.inj h)
    exact xr_vret (kd_41) (in_41 rfl) (by omega) (by omega) ⟨rfl, rfl⟩
def wt_learn_l2 (F : Nat) (a295 : Int32) (a296 : Int32) (k : Nat → xm_S → Option (Int32 × Nat × xm_S)) : Nat → Int32 → Nat → xm_S → Option (Int32 × Nat × xm_S)
  | 0, _, _, _ => none
  | fu + 1, a297, n294, m293 => if a295 < a297 then k n294 m293 else xc_m (bk_isPart F a297 a295 m293) fun v299 m300 => if v299 = 0 then wt_learn_l2 F a295 a296 k fu (a297 + (1 : Int32)) n294 m300 else xg_n (wt_cell a297 a296) 448 (xj_j (fun (n490 : Nat) (m491 : xm_S) => xg_n (wt_cell a297 a296) 448 (if (m491.1 12 (wt_cell a297 a296).toNatClampNeg) = (-2 : Int32) then some ((0 : Int32), n490, m491) else wt_learn_l2 F a295 a296 k fu (a297 + (1 : Int32)) n490 m491)) fun j492 => if (m300.1 12 (wt_cell a297 a296).toNatClampNeg) = (-1 : Int32) then xc_v (wt_find F n294 a297 a296 m300) fun m499 => xc_av n294 (wt_keepFound F n294 (wt_cell a297 a296) m499) fun n505 m503 => j492 n505 m503 else j492 n294 m300)
theorem wt_learn_l2_ok {xt : Nat → Nat × (Nat → Int32)} (d : Nat) {F : Nat} {a295 : Int32} {a296 : Int32} {k : Nat → xm_S → Option (Int32 × Nat × xm_S)} {r : Int32} {m' : xm_S} {n' C0 S0 : Nat} 
    (hk : ∀ (n : Nat) (m : xm_S) (nc ns : Nat), nc + n' ≤ C0 + n → ns + xk_s n' ≤ S0 + xk_s n → k n m = some (r, n', m') → xm_Run pg xt (d + 4) 32 C0 S0 (xQ_i (sh n') r m') 72 [none, none, none, none, none] [] (xq_2 (sh n) m) nc ns) :
    ∀ (fu : Nat) (a297 : Int32) (n294 : Nat) (m293 : xm_S) (nc ns : Nat), nc + n' ≤ C0 + n294 → ns + xk_s n' ≤ S0 + xk_s n294 → wt_learn_l2 F a295 a296 k fu a297 n294 m293 = some (r, n', m') → xm_Run pg xt (d + 4) 32 C0 S0 (xQ_i (sh n') r m') 2 [some (xv_r 10), some (xv_i a295), some (xv_i a296), some (xv_i a297), none] [] (xq_2 (sh n294) m293) nc ns := by
  intro fu
  induction fu with
  | zero => intro a297 n294 m293 nc ns hnc hns h; cases h
  | succ fu ih =>
    intro a297 n294 m293 nc ns hnc hns h
    rw [wt_learn_l2] at h
    refine xr_iload_n (in_32 rfl) rfl ?_
    refine xr_iload_n (in_32 rfl) rfl ?_
    by_cases c298 : a295 < a297
    · replace h := (if_pos c298).symm.trans h
      refine xr_ict 72 (in_32 rfl) rfl c298 ?_
      refine xr_forget (loc' := [none, none, none, none, none]) (xl_o (xl_o (xl_o (xl_o (xl_o xl_n))))) ?_
      exact hk n294 m293 _ _ (by omega) (by omega) h
    · replace h := (if_neg c298).symm.trans h
      refine xr_icf 72 (in_32 rfl) rfl c298 ?_
      refine xr_aload_n (in_32 rfl) rfl ?_
      refine xq_getr (in_32 rfl) (fo_32 rfl) (sh_10 n294) rfl ?_
      refine xr_iload_n (in_32 rfl) rfl ?_
      refine xr_iload_n (in_32 rfl) rfl ?_
      obtain ⟨v299, m300, e301, h⟩ := xc_m_e h
      refine xq_calla [xv_r 1, xv_i a297, xv_i a295] [] [some (xv_r 1), some (xv_i a297), some (xv_i a295)] (xk_V (in_32 rfl) (sh_1 n294)) (cl_32 rfl) rfl rfl rfl rfl (bk_isPart_ok n294 (d + 3) e301) ?_
      by_cases c303 : v299 = 0
      · replace h := (if_pos c303).symm.trans h
        refine xr_iff 22 (in_32 rfl) rfl (fun q => q c303) ?_
        refine xr_goto 66 (in_32 rfl) rfl ?_
        refine xr_iinc (a297 + (1 : Int32)) [some (xv_r 10), some (xv_i a295), some (xv_i a296), some (xv_i (a297 + (1 : Int32))), none] (in_32 rfl) rfl (xi_1 _) (nl_32 rfl) rfl ?_
        refine xr_goto 2 (in_32 rfl) rfl ?_
        exact ih (a297 + (1 : Int32)) n294 m300 _ _ (by omega) (by omega) h
      · replace h := (if_neg c303).symm.trans h
        refine xr_ift 22 (in_32 rfl) rfl c303 ?_
        refine xr_iload_n (in_32 rfl) rfl ?_
        refine xr_iload_n (in_32 rfl) rfl ?_
        refine xq_calla [xv_i a297, xv_i a296] [] [some (xv_i a297), some (xv_i a296)] (xk_S (in_32 rfl)) (cl_32 rfl) rfl rfl rfl rfl (wt_cell_ok n294 (d + 3) rfl) ?_
        refine xr_istore [some (xv_r 10), some (xv_i a295), some (xv_i a296), some (xv_i a297), some (xv_i (wt_cell a297 a296))] (in_32 rfl) (nl_32 rfl) rfl ?_
        refine xr_aload_n (in_32 rfl) rfl ?_
        refine xq_getr (in_32 rfl) (fo_32 rfl) (sh_10 n294) rfl ?_
        refine xr_iload (in_32 rfl) rfl ?_
        obtain ⟨o304, h⟩ := xg_e h
        refine xq_iald (in_32 rfl) (sh_12 n294) o304 ?_
        refine xr_iconst_ _ (in_32 rfl) (show _ = (-1 : Int32) by decide) ?_
        obtain ⟨j492, e493, h⟩ := xj_e h
        have q494 : ∀ (n490 : Nat) (m491 : xm_S) (nc ns : Nat), nc + n' ≤ C0 + n490 → ns + xk_s n' ≤ S0 + xk_s n490 → j492 n490 m491 = some (r, n', m') → xm_Run pg xt (d + 4) 32 C0 S0 (xQ_i (sh n') r m') 52 [some (xv_r 10), some (xv_i a295), some (xv_i a296), some (xv_i a297), some (xv_i (wt_cell a297 a296))] [] (xq_2 (sh n490) m491) nc ns := by
          intro n490 m491 nc ns hnc hns h
          rw [e493] at h
          refine xr_aload_n (in_32 rfl) rfl ?_
          refine xq_getr (in_32 rfl) (fo_32 rfl) (sh_10 n490) rfl ?_
          refine xr_iload (in_32 rfl) rfl ?_
          obtain ⟨o495, h⟩ := xg_e h
          refine xq_iald (in_32 rfl) (sh_12 n490) o495 ?_
          refine xr_bipush_ _ (in_32 rfl) (show _ = (-2 : Int32) by decide) ?_
          by_cases c496 : (m491.1 12 (wt_cell a297 a296).toNatClampNeg) = (-2 : Int32)
          · replace h := (if_pos c496).symm.trans h
            refine xr_icf 66 (in_32 rfl) rfl (fun q => q c496) ?_
            refine xr_iconst_ _ (in_32 rfl) (show _ = (0 : Int32) by decide) ?_
            obtain ⟨rfl, h9⟩ := Prod.mk.inj (Option.some.inj h)
            obtain ⟨rfl, rfl⟩ := Prod.mk.inj h9
            exact xr_zret (kd_32) (in_32 rfl) (by decide) (by omega) (by omega) ⟨rfl, rfl⟩
          · replace h := (if_neg c496).symm.trans h
            refine xr_ict 66 (in_32 rfl) rfl c496 ?_
            refine xr_iinc (a297 + (1 : Int32)) [some (xv_r 10), some (xv_i a295), some (xv_i a296), some (xv_i (a297 + (1 : Int32))), some (xv_i (wt_cell a297 a296))] (in_32 rfl) rfl (xi_1 _) (nl_32 rfl) rfl ?_
            refine xr_goto 2 (in_32 rfl) rfl ?_
            refine xr_forget (loc' := [some (xv_r 10), some (xv_i a295), some (xv_i a296), some (xv_i (a297 + (1 : Int32))), none]) (xl_s (xl_s (xl_s (xl_s (xl_o xl_n))))) ?_
            exact ih (a297 + (1 : Int32)) n490 m491 _ _ (by omega) (by omega) h
        clear e493
        by_cases c497 : (m300.1 12 (wt_cell a297 a296).toNatClampNeg) = (-1 : Int32)
        · replace h := (if_pos c497).symm.trans h
          refine xr_icf 52 (in_32 rfl) rfl (fun q => q c497) ?_
          refine xr_aload_n (in_32 rfl) rfl ?_
          refine xr_iload_n (in_32 rfl) rfl ?_
          refine xr_iload_n (in_32 rfl) rfl ?_
          obtain ⟨m499, e500, h⟩ := xc_v_e h
          refine xq_callv [xv_r 10, xv_i a297, xv_i a296] [] [some (xv_r 10), some (xv_i a297), some (xv_i a296), none, none, none] (xk_V (in_32 rfl) (sh_10 n294)) (cl_32 rfl) rfl rfl rfl rfl (wt_find_ok n294 d e500) ?_
          refine xr_aload_n (in_32 rfl) rfl ?_
          refine xr_iload (in_32 rfl) rfl ?_
          obtain ⟨n505, m503, e504, l506, h⟩ := xc_av_e h
          have l506c := xk_mono l506
          refine xq_callvn (c1 := n505 - n294) (s1 := xk_s n505 - xk_s n294) [xv_r 10, xv_i (wt_cell a297 a296)] [] [some (xv_r 10), some (xv_i (wt_cell a297 a296))] (xk_V (in_32 rfl) (sh_10 n294)) (cl_32 rfl) rfl rfl rfl rfl (wt_keepFound_ok n294 (d + 1) (by omega) (by omega) e504) ?_
          exact q494 n505 m503 _ _ (by omega) (by omega) h
        · replace h := (if_neg c497).symm.trans h
          refine xr_ict 52 (in_32 rfl) rfl c497 ?_
          exact q494 n294 m300 _ _ (by omega) (by omega) h
def wt_learn (F : Nat) (n : Nat) (a1 : Int32) (a2 : Int32) (m : xm_S) : Option (Int32 × Nat × xm_S) := wt_learn_l2 F a1 a2 (fun (n508 : Nat) (m507 : xm_S) => some ((1 : Int32), n508, m507)) F (0 : Int32) n m
theorem wt_learn_ok {xt : Nat → Nat × (Nat → Int32)} (n d : Nat) {F : Nat} {a1 : Int32} {a2 : Int32} {m m' : xm_S} {n' C0 S0 nc ns : Nat} {r : Int32} (hnc : nc + n' ≤ C0 + n) (hns : ns + xk_s n' ≤ S0 + xk_s n) (h : wt_learn F n a1 a2 m = some (r, n', m')) : xm_Run pg xt (d + 4) 32 C0 S0 (xQ_i (sh n') r m') 0 [some (xv_r 10), some (xv_i a1), some (xv_i a2), none, none] [] (xq_2 (sh n) m) nc ns := by
  unfold wt_learn at h
  refine xr_iconst_ _ (in_32 rfl) (show _ = (0 : Int32) by decide) ?_
  refine xr_istore_n [some (xv_r 10), some (xv_i a1), some (xv_i a2), some (xv_i (0 : Int32)), none] (in_32 rfl) (nl_32 rfl) rfl ?_
  refine wt_learn_l2_ok d (fun n508 m507 nc ns hnc hns h => ?_) F (0 : Int32) n m _ _ (by omega) (by omega) h
  refine xr_iconst_ _ (in_32 rfl) (show _ = (1 : Int32) by decide) ?_
  obtain ⟨rfl, h9⟩ := Prod.mk.inj (Option.some.inj h)
  obtain ⟨rfl, rfl⟩ := Prod.mk.inj h9
  exact xr_zret (kd_32) (in_32 rfl) (by decide) (by omega) (by omega) ⟨rfl, rfl⟩
def wt_count (F : Nat) (a1 : Int32) (a2 : Int32) (m : xm_S) : Option (Int32 × xm_S) := xg_n (wt_cell a1 a2) 448 (some (m.1 12 (wt_cell a1 a2).toNatClampNeg, m))
theorem wt_count_ok {xt : Nat → Nat × (Nat → Int32)} (n d : Nat) {F : Nat} {a1 : Int32} {a2 : Int32} {m m' : xm_S} {r : Int32} (h : wt_count F a1 a2 m = some (r, m')) : xm_Run pg xt (d + 1) 44 0 0 (xQ_i (sh n) r m') 0 [some (xv_r 10), some (xv_i a1), some (xv_i a2)] [] (xq_2 (sh n) m) 0 0 := by
  unfold wt_count at h
  refine xr_aload_n (in_44 rfl) rfl ?_
  refine xq_getr (in_44 rfl) (fo_44 rfl) (sh_10 n) rfl ?_
  refine xr_iload_n (in_44 rfl) rfl ?_
  refine xr_iload_n (in_44 rfl) rfl ?_
  refine xq_calla [xv_i a1, xv_i a2] [xv_r 12] [some (xv_i a1), some (xv_i a2)] (xk_S (in_44 rfl)) (cl_44 rfl) rfl rfl rfl rfl (wt_cell_ok n d rfl) ?_
  obtain ⟨o515, h⟩ := xg_e h
  refine xq_iald (in_44 rfl) (sh_12 n) o515 ?_
  obtain ⟨rfl, rfl⟩ := Prod.mk.inj (Option.some.inj h)
  exact xr_iret (kd_44) (in_44 rfl) (Nat.le_refl _) (Nat.le_refl _) ⟨rfl, rfl⟩
def mk_ways (F : Nat) (n : Nat) (a1 : Int32) (a2 : Int32) (m : xm_S) : Option (Int32 × Nat × xm_S) := if (bk_knows a1 m) = 0 then some ((-1 : Int32), n, m) else if a2 < 0 then some ((-1 : Int32), n, m) else if a2 < (16 : Int32) then xc_a n (wt_learn F n a1 a2 m) fun v509 n512 m510 => if v509 = 0 then some ((-2 : Int32), n512, m510) else xc_m (wt_count F a1 a2 m510) fun v516 m517 => some (v516, n512, m517) else some ((-1 : Int32), n, m)
theorem mk_ways_ok {xt : Nat → Nat × (Nat → Int32)} (n d : Nat) {F : Nat} {a1 : Int32} {a2 : Int32} {m m' : xm_S} {n' C0 S0 nc ns : Nat} {r : Int32} (hnc : nc + n' ≤ C0 + n) (hns : ns + xk_s n' ≤ S0 + xk_s n) (h : mk_ways F n a1 a2 m = some (r, n', m')) : xm_Run pg xt (d + 5) 31 C0 S0 (xQ_i (sh n') r m') 0 [some (xv_r 0), some (xv_i a1), some (xv_i a2)] [] (xq_2 (sh n) m) nc ns := by
  unfold mk_ways at h
  refine xr_aload_n (in_31 rfl) rfl ?_
  refine xq_getr (in_31 rfl) (fo_31 rfl) (sh_0 n) rfl ?_
  refine xr_iload_n (in_31 rfl) rfl ?_
  refine xq_calla [xv_r 1, xv_i a1] [] [some (xv_r 1), some (xv_i a1)] (xk_V (in_31 rfl) (sh_1 n)) (cl_31 rfl) rfl rfl rfl rfl (bk_knows_ok n (d + 4) rfl) ?_
  by_cases c290 : (bk_knows a1 m) = 0
  · replace h := (if_pos c290).symm.trans h
    refine xr_ift 21 (in_31 rfl) rfl c290 ?_
    refine xr_iconst_ _ (in_31 rfl) (show _ = (-1 : Int32) by decide) ?_
    obtain ⟨rfl, h9⟩ := Prod.mk.inj (Option.some.inj h)
    obtain ⟨rfl, rfl⟩ := Prod.mk.inj h9
    exact xr_iret (kd_31) (in_31 rfl) (by omega) (by omega) ⟨rfl, rfl⟩
  · replace h := (if_neg c290).symm.trans h
    refine xr_iff 21 (in_31 rfl) rfl c290 ?_
    refine xr_iload_n (in_31 rfl) rfl ?_
    by_cases c291 : a2 < 0
    · replace h := (if_pos c291).symm.trans h
      refine xr_ift 21 (in_31 rfl) rfl c291 ?_
      refine xr_iconst_ _ (in_31 rfl) (show _ = (-1 : Int32) by decide) ?_
      obtain ⟨rfl, h9⟩ := Prod.mk.inj (Option.some.inj h)
      obtain ⟨rfl, rfl⟩ := Prod.mk.inj h9
      exact xr_iret (kd_31) (in_31 rfl) (by omega) (by omega) ⟨rfl, rfl⟩
    · replace h := (if_neg c291).symm.trans h
      refine xr_iff 21 (in_31 rfl) rfl c291 ?_
      refine xr_iload_n (in_31 rfl) rfl ?_
      refine xr_bipush_ _ (in_31 rfl) (show _ = (16 : Int32) by decide) ?_
      by_cases c292 : a2 < (16 : Int32)
      · replace h := (if_pos c292).symm.trans h
        refine xr_ict 23 (in_31 rfl) rfl c292 ?_
        refine xr_aload_n (in_31 rfl) rfl ?_
        refine xq_getr (in_31 rfl) (fo_31 rfl) (sh_0 n) rfl ?_
        refine xr_iload_n (in_31 rfl) rfl ?_
        refine xr_iload_n (in_31 rfl) rfl ?_
        obtain ⟨v509, n512, m510, e511, l513, h⟩ := xc_a_e h
        have l513c := xk_mono l513
        refine xq_callan (c1 := n512 - n) (s1 := xk_s n512 - xk_s n) [xv_r 10, xv_i a1, xv_i a2] [] [some (xv_r 10), some (xv_i a1), some (xv_i a2), none, none] (xk_V (in_31 rfl) (sh_10 n)) (cl_31 rfl) rfl rfl rfl rfl (wt_learn_ok n d (by omega) (by omega) e511) ?_
        by_cases c514 : v509 = 0
        · replace h := (if_pos c514).symm.trans h
          refine xr_ift 47 (in_31 rfl) rfl c514 ?_
          refine xr_bipush_ _ (in_31 rfl) (show _ = (-2 : Int32) by decide) ?_
          obtain ⟨rfl, h9⟩ := Prod.mk.inj (Option.some.inj h)
          obtain ⟨rfl, rfl⟩ := Prod.mk.inj h9
          exact xr_iret (kd_31) (in_31 rfl) (by omega) (by omega) ⟨rfl, rfl⟩
        · replace h := (if_neg c514).symm.trans h
          refine xr_iff 47 (in_31 rfl) rfl c514 ?_
          refine xr_aload_n (in_31 rfl) rfl ?_
          refine xq_getr (in_31 rfl) (fo_31 rfl) (sh_0 n512) rfl ?_
          refine xr_iload_n (in_31 rfl) rfl ?_
          refine xr_iload_n (in_31 rfl) rfl ?_
          obtain ⟨v516, m517, e518, h⟩ := xc_m_e h
          refine xq_calla [xv_r 10, xv_i a1, xv_i a2] [] [some (xv_r 10), some (xv_i a1), some (xv_i a2)] (xk_V (in_31 rfl) (sh_10 n512)) (cl_31 rfl) rfl rfl rfl rfl (wt_count_ok n512 (d + 3) e518) ?_
          refine xr_goto 49 (in_31 rfl) rfl ?_
          obtain ⟨rfl, h9⟩ := Prod.mk.inj (Option.some.inj h)
          obtain ⟨rfl, rfl⟩ := Prod.mk.inj h9
          exact xr_iret (kd_31) (in_31 rfl) (by omega) (by omega) ⟨rfl, rfl⟩
      · replace h := (if_neg c292).symm.trans h
        refine xr_icf 23 (in_31 rfl) rfl c292 ?_
        refine xr_iconst_ _ (in_31 rfl) (show _ = (-1 : Int32) by decide) ?_
        obtain ⟨rfl, h9⟩ := Prod.mk.inj (Option.some.inj h)
        obtain ⟨rfl, rfl⟩ := Prod.mk.inj h9
        exact xr_iret (kd_31) (in_31 rfl) (by omega) (by omega) ⟨rfl, rfl⟩
def au_listUntils_l7 (F : Nat) (a537 : Int32) (k : xm_S → Option (xm_S)) : Nat → Int32 → xm_S → Option (xm_S)
  | 0, _, _ => none
  | fu + 1, a538, m536 => if a537 < a538 then k m536 else xc_m (bk_isPart F a538 a537 m536) fun v540 m541 => if v540 = 0 then au_listUntils_l7 F a537 k fu (a538 + (1 : Int32)) m541 else xg_n a538 28 (if (m541.1 2 a538.toNatClampNeg) = (7 : Int32) then xg_n (m541.1 20 3) 28 (xs_m (xw_i m541 21 (m541.1 20 3).toNatClampNeg a538) fun m548 => xs_m (xw_i m548 20 3 ((m548.1 20 3) + (1 : Int32))) fun m550 => au_listUntils_l7 F a537 k fu (a538 + (1 : Int32)) m550) else au_listUntils_l7 F a537 k fu (a538 + (1 : Int32)) m541)
theorem au_listUntils_l7_ok {xt : Nat → Nat × (Nat → Int32)} (n d : Nat) {F : Nat} {a537 : Int32} {k : xm_S → Option (xm_S)} {m' : xm_S} 
    (hk : ∀ (m : xm_S), k m = some m' → xm_Run pg xt (d + 1) 47 0 0 (xQ_v (sh n) m') 64 [none, none, none] [] (xq_2 (sh n) m) 0 0) :
    ∀ (fu : Nat) (a538 : Int32) (m536 : xm_S), au_listUntils_l7 F a537 k fu a538 m536 = some m' → xm_Run pg xt (d + 1) 47 0 0 (xQ_v (sh n) m') 7 [some (xv_r 20), some (xv_i a537), some (xv_i a538)] [] (xq_2 (sh n) m536) 0 0 := by
  intro fu
  induction fu with
  | zero => intro a538 m536 h; cases h
  | succ fu ih =>
    intro a538 m536 h
    rw [au_listUntils_l7] at h
    refine xr_iload_n (in_47 rfl) rfl ?_
    refine xr_iload_n (in_47 rfl) rfl ?_
    by_cases c539 : a537 < a538
    · replace h := (if_pos c539).symm.trans h
      refine xr_ict 64 (in_47 rfl) rfl c539 ?_
      refine xr_forget (loc' := [none, none, none]) (xl_o (xl_o (xl_o xl_n))) ?_
      exact hk m536 h
    · replace h := (if_neg c539).symm.trans h
      refine xr_icf 64 (in_47 rfl) rfl c539 ?_
      refine xr_aload_n (in_47 rfl) rfl ?_
      refine xq_getr (in_47 rfl) (fo_47 rfl) (sh_20 n) rfl ?_
      refine xr_iload_n (in_47 rfl) rfl ?_
      refine xr_iload_n (in_47 rfl) rfl ?_
      obtain ⟨v540, m541, e542, h⟩ := xc_m_e h
      refine xq_calla [xv_r 1, xv_i a538, xv_i a537] [] [some (xv_r 1), some (xv_i a538), some (xv_i a537)] (xk_V (in_47 rfl) (sh_1 n)) (cl_47 rfl) rfl rfl rfl rfl (bk_isPart_ok n d e542) ?_
      by_cases c544 : v540 = 0
      · replace h := (if_pos c544).symm.trans h
        refine xr_ift 58 (in_47 rfl) rfl c544 ?_
        refine xr_iinc (a538 + (1 : Int32)) [some (xv_r 20), some (xv_i a537), some (xv_i (a538 + (1 : Int32)))] (in_47 rfl) rfl (xi_1 _) (nl_47 rfl) rfl ?_
        refine xr_goto 7 (in_47 rfl) rfl ?_
        exact ih (a538 + (1 : Int32)) m541 h
      · replace h := (if_neg c544).symm.trans h
        refine xr_iff 58 (in_47 rfl) rfl c544 ?_
        refine xr_aload_n (in_47 rfl) rfl ?_
        refine xq_getr (in_47 rfl) (fo_47 rfl) (sh_20 n) rfl ?_
        refine xq_getr (in_47 rfl) (fo_47 rfl) (sh_1 n) rfl ?_
        refine xr_iload_n (in_47 rfl) rfl ?_
        obtain ⟨o545, h⟩ := xg_e h
        refine xq_iald (in_47 rfl) (sh_2 n) o545 ?_
        refine xr_bipush_ _ (in_47 rfl) (show _ = (7 : Int32) by decide) ?_
        by_cases c546 : (m541.1 2 a538.toNatClampNeg) = (7 : Int32)
        · replace h := (if_pos c546).symm.trans h
          refine xr_icf 58 (in_47 rfl) rfl (fun q => q c546) ?_
          refine xr_aload_n (in_47 rfl) rfl ?_
          refine xq_getr (in_47 rfl) (fo_47 rfl) (sh_20 n) rfl ?_
          refine xr_aload_n (in_47 rfl) rfl ?_
          refine xq_geti (in_47 rfl) (fo_47 rfl) (sh_20 n) rfl ?_
          refine xr_iload_n (in_47 rfl) rfl ?_
          obtain ⟨o547, h⟩ := xg_e h
          refine xq_iast (in_47 rfl) (sh_21 n) o547 ?_
          obtain ⟨m548, e549, h⟩ := xs_e h
          rw [← e549]
          clear e549
          refine xr_aload_n (in_47 rfl) rfl ?_
          refine xr_dup (in_47 rfl) rfl ?_
          refine xq_geti (in_47 rfl) (fo_47 rfl) (sh_20 n) rfl ?_
          refine xr_iconst_ _ (in_47 rfl) (show _ = (1 : Int32) by decide) ?_
          refine xr_iadd (in_47 rfl) ?_
          refine xq_put (in_47 rfl) (fo_47 rfl) (sh_20 n) rfl (Or.inl rfl) ?_
          obtain ⟨m550, e551, h⟩ := xs_e h
          rw [← e551]
          clear e551
          refine xr_iinc (a538 + (1 : Int32)) [some (xv_r 20), some (xv_i a537), some (xv_i (a538 + (1 : Int32)))] (in_47 rfl) rfl (xi_1 _) (nl_47 rfl) rfl ?_
          refine xr_goto 7 (in_47 rfl) rfl ?_
          exact ih (a538 + (1 : Int32)) m550 h
        · replace h := (if_neg c546).symm.trans h
          refine xr_ict 58 (in_47 rfl) rfl c546 ?_
          refine xr_iinc (a538 + (1 : Int32)) [some (xv_r 20), some (xv_i a537), some (xv_i (a538 + (1 : Int32)))] (in_47 rfl) rfl (xi_1 _) (nl_47 rfl) rfl ?_
          refine xr_goto 7 (in_47 rfl) rfl ?_
          exact ih (a538 + (1 : Int32)) m541 h
def au_listUntils (F : Nat) (a1 : Int32) (m : xm_S) : Option (xm_S) := xs_m (xw_i m 20 3 (0 : Int32)) fun m534 => au_listUntils_l7 F a1 (fun (m552 : xm_S) => some m552) F (0 : Int32) m534
theorem au_listUntils_ok {xt : Nat → Nat × (Nat → Int32)} (n d : Nat) {F : Nat} {a1 : Int32} {m m' : xm_S} (h : au_listUntils F a1 m = some m') : xm_Run pg xt (d + 1) 47 0 0 (xQ_v (sh n) m') 0 [some (xv_r 20), some (xv_i a1), none] [] (xq_2 (sh n) m) 0 0 := by
  unfold au_listUntils at h
  refine xr_aload_n (in_47 rfl) rfl ?_
  refine xr_iconst_ _ (in_47 rfl) (show _ = (0 : Int32) by decide) ?_
  refine xq_put (in_47 rfl) (fo_47 rfl) (sh_20 n) rfl (Or.inl rfl) ?_
  obtain ⟨m534, e535, h⟩ := xs_e h
  rw [← e535]
  clear e535
  refine xr_iconst_ _ (in_47 rfl) (show _ = (0 : Int32) by decide) ?_
  refine xr_istore_n [some (xv_r 20), some (xv_i a1), some (xv_i (0 : Int32))] (in_47 rfl) (nl_47 rfl) rfl ?_
  refine au_listUntils_l7_ok n d (fun m552 h => ?_) F (0 : Int32) m534 h
  obtain rfl := Option.some.inj h
  exact xr_vret (kd_47) (in_47 rfl) (Nat.le_refl _) (Nat.le_refl _) ⟨rfl, rfl⟩
def wt_waysOfSet_l64 (F : Nat) (n : Nat) (a601 : Int32) (a602 : Int32) (a603 : Nat) (a605 : Nat) (a607 : Int32) (k : xm_S → Option (Nat × xm_S)) : Nat → Int32 → xm_S → Option (Nat × xm_S)
  | 0, _, _ => none
  | fu + 1, a608, m600 => if (m600.1 a603 1) ≤ a608 then k m600 else if (m600.1 a605 2) = 0 then xg_n a608 60 (xc_v (wt_addEach F n a605 a607 a602 (m600.2 (a603 + 1) a608.toNatClampNeg) m600) fun m613 => wt_waysOfSet_l64 F n a601 a602 a603 a605 a607 k fu (a608 + (1 : Int32)) m613) else k m600
theorem wt_waysOfSet_l64_ok {xt : Nat → Nat × (Nat → Int32)} (n d : Nat) {F : Nat} {a601 : Int32} {a602 : Int32} {a603 : Nat} {a605 : Nat} {a607 : Int32} {k : xm_S → Option (Nat × xm_S)} {r : Nat} {m' : xm_S} (w604 : xw_ok a603) (w606 : xw_ok a605) 
    (hk : ∀ (m : xm_S), k m = some (r, m') → xm_Run pg xt (d + 2) 49 0 0 (xQ_r (sh n) r m') 103 [some (xv_r 10), some (xv_i a601), some (xv_i a602), some (xv_r a603), some (xv_r a605), some (xv_i a607), none] [] (xq_2 (sh n) m) 0 0) :
    ∀ (fu : Nat) (a608 : Int32) (m600 : xm_S), wt_waysOfSet_l64 F n a601 a602 a603 a605 a607 k fu a608 m600 = some (r, m') → xm_Run pg xt (d + 2) 49 0 0 (xQ_r (sh n) r m') 64 [some (xv_r 10), some (xv_i a601), some (xv_i a602), some (xv_r a603), some (xv_r a605), some (xv_i a607), some (xv_i a608)] [] (xq_2 (sh n) m600) 0 0 := by
  intro fu
  induction fu with
  | zero => intro a608 m600 h; cases h
  | succ fu ih =>
    intro a608 m600 h
    rw [wt_waysOfSet_l64] at h
    refine xr_iload (in_49 rfl) rfl ?_
    refine xr_aload_n (in_49 rfl) rfl ?_
    refine xq_geti (in_49 rfl) (fo_49 rfl) (sh_w n w604) rfl ?_
    by_cases c609 : (m600.1 a603 1) ≤ a608
    · replace h := (if_pos c609).symm.trans h
      refine xr_ict 103 (in_49 rfl) rfl c609 ?_
      refine xr_forget (loc' := [some (xv_r 10), some (xv_i a601), some (xv_i a602), some (xv_r a603), some (xv_r a605), some (xv_i a607), none]) (xl_s (xl_s (xl_s (xl_s (xl_s (xl_s (xl_o xl_n))))))) ?_
      exact hk m600 h
    · replace h := (if_neg c609).symm.trans h
      refine xr_icf 103 (in_49 rfl) rfl c609 ?_
      refine xr_aload (in_49 rfl) rfl ?_
      refine xq_geti (in_49 rfl) (fo_49 rfl) (sh_w n w606) rfl ?_
      by_cases c610 : (m600.1 a605 2) = 0
      · replace h := (if_pos c610).symm.trans h
        refine xr_iff 103 (in_49 rfl) rfl (fun q => q c610) ?_
        refine xr_aload_n (in_49 rfl) rfl ?_
        refine xr_aload (in_49 rfl) rfl ?_
        refine xr_iload (in_49 rfl) rfl ?_
        refine xr_iload_n (in_49 rfl) rfl ?_
        refine xr_aload_n (in_49 rfl) rfl ?_
        refine xq_getr (in_49 rfl) (fo_49 rfl) (sh_w n w604) rfl ?_
        refine xr_iload (in_49 rfl) rfl ?_
        obtain ⟨o611, h⟩ := xg_e h
        refine xq_lald (in_49 rfl) (sh_wr n w604) o611 ?_
        obtain ⟨m613, e614, h⟩ := xc_v_e h
        refine xq_callv [xv_r 10, xv_r a605, xv_i a607, xv_i a602, xv_l (m600.2 (a603 + 1) a608.toNatClampNeg)] [] [some (xv_r 10), some (xv_r a605), some (xv_i a607), some (xv_i a602), some (xv_l (m600.2 (a603 + 1) a608.toNatClampNeg)), none, none, none] (xk_V (in_49 rfl) (sh_10 n)) (cl_49 rfl) rfl rfl rfl rfl (wt_addEach_ok n d w606 e614) ?_
        refine xr_iinc (a608 + (1 : Int32)) [some (xv_r 10), some (xv_i a601), some (xv_i a602), some (xv_r a603), some (xv_r a605), some (xv_i a607), some (xv_i (a608 + (1 : Int32)))] (in_49 rfl) rfl (xi_1 _) (nl_49 rfl) rfl ?_
        refine xr_goto 64 (in_49 rfl) rfl ?_
        exact ih (a608 + (1 : Int32)) m613 h
      · replace h := (if_neg c610).symm.trans h
        refine xr_ift 103 (in_49 rfl) rfl c610 ?_
        refine xr_forget (loc' := [some (xv_r 10), some (xv_i a601), some (xv_i a602), some (xv_r a603), some (xv_r a605), some (xv_i a607), none]) (xl_s (xl_s (xl_s (xl_s (xl_s (xl_s (xl_o xl_n))))))) ?_
        exact hk m600 h
def wt_waysOfSet_l23 (F : Nat) (n : Nat) (a585 : Int32) (a586 : Int32) (k : Nat → xm_S → Option (Nat × xm_S)) : Nat → Nat → Nat → Int32 → xm_S → Option (Nat × xm_S)
  | 0, _, _, _, _ => none
  | fu + 1, a587, a589, a591, m584 => if (28 : Int32) ≤ a591 then k a587 m584 else if (a585 >>> (a591 &&& 31)) = 0 then k a587 m584 else if (m584.1 a587 2) = 0 then if ((a585 >>> (a591 &&& 31)) &&& (1 : Int32)) = 0 then wt_waysOfSet_l23 F n a585 a586 k fu a587 a589 (a591 + (1 : Int32)) m584 else xc_v (wy_clear F a589 m584) fun m597 => wt_waysOfSet_l64 F n a585 a586 a587 a589 a591 (fun (m616 : xm_S) => wt_waysOfSet_l23 F n a585 a586 k fu a589 a587 (a591 + (1 : Int32)) m616) F (0 : Int32) m597 else k a587 m584
theorem wt_waysOfSet_l23_ok {xt : Nat → Nat × (Nat → Int32)} (n d : Nat) {F : Nat} {a585 : Int32} {a586 : Int32} {k : Nat → xm_S → Option (Nat × xm_S)} {r : Nat} {m' : xm_S} 
    (hk : ∀ (z3 : Nat) (m : xm_S), xw_ok z3 → k z3 m = some (r, m') → xm_Run pg xt (d + 2) 49 0 0 (xQ_r (sh n) r m') 119 [none, none, none, some (xv_r z3), none, none, none] [] (xq_2 (sh n) m) 0 0) :
    ∀ (fu : Nat) (a587 : Nat) (a589 : Nat) (a591 : Int32) (m584 : xm_S), xw_ok a587 → xw_ok a589 → wt_waysOfSet_l23 F n a585 a586 k fu a587 a589 a591 m584 = some (r, m') → xm_Run pg xt (d + 2) 49 0 0 (xQ_r (sh n) r m') 23 [some (xv_r 10), some (xv_i a585), some (xv_i a586), some (xv_r a587), some (xv_r a589), some (xv_i a591), none] [] (xq_2 (sh n) m584) 0 0 := by
  intro fu
  induction fu with
  | zero => intro a587 a589 a591 m584 w588 w590 h; cases h
  | succ fu ih =>
    intro a587 a589 a591 m584 w588 w590 h
    rw [wt_waysOfSet_l23] at h
    refine xr_iload (in_49 rfl) rfl ?_
    refine xr_bipush_ _ (in_49 rfl) (show _ = (28 : Int32) by decide) ?_
    by_cases c592 : (28 : Int32) ≤ a591
    · replace h := (if_pos c592).symm.trans h
      refine xr_ict 119 (in_49 rfl) rfl c592 ?_
      refine xr_forget (loc' := [none, none, none, some (xv_r a587), none, none, none]) (xl_o (xl_o (xl_o (xl_s (xl_o (xl_o (xl_o xl_n))))))) ?_
      exact hk a587 m584 w588 h
    · replace h := (if_neg c592).symm.trans h
      refine xr_icf 119 (in_49 rfl) rfl c592 ?_
      refine xr_iload_n (in_49 rfl) rfl ?_
      refine xr_iload (in_49 rfl) rfl ?_
      refine xr_ishr (in_49 rfl) ?_
      by_cases c593 : (a585 >>> (a591 &&& 31)) = 0
      · replace h := (if_pos c593).symm.trans h
        refine xr_ift 119 (in_49 rfl) rfl c593 ?_
        refine xr_forget (loc' := [none, none, none, some (xv_r a587), none, none, none]) (xl_o (xl_o (xl_o (xl_s (xl_o (xl_o (xl_o xl_n))))))) ?_
        exact hk a587 m584 w588 h
      · replace h := (if_neg c593).symm.trans h
        refine xr_iff 119 (in_49 rfl) rfl c593 ?_
        refine xr_aload_n (in_49 rfl) rfl ?_
        refine xq_geti (in_49 rfl) (fo_49 rfl) (sh_w n w588) rfl ?_
        by_cases c594 : (m584.1 a587 2) = 0
        · replace h := (if_pos c594).symm.trans h
          refine xr_iff 119 (in_49 rfl) rfl (fun q => q c594) ?_
          refine xr_iload_n (in_49 rfl) rfl ?_
          refine xr_iload (in_49 rfl) rfl ?_
          refine xr_ishr (in_49 rfl) ?_
          refine xr_iconst_ _ (in_49 rfl) (show _ = (1 : Int32) by decide) ?_
          refine xr_iand (in_49 rfl) ?_
          by_cases c595 : ((a585 >>> (a591 &&& 31)) &&& (1 : Int32)) = 0
          · replace h := (if_pos c595).symm.trans h
            refine xr_iff 56 (in_49 rfl) rfl (fun q => q c595) ?_
            refine xr_goto 113 (in_49 rfl) rfl ?_
            refine xr_iinc (a591 + (1 : Int32)) [some (xv_r 10), some (xv_i a585), some (xv_i a586), some (xv_r a587), some (xv_r a589), some (xv_i (a591 + (1 : Int32))), none] (in_49 rfl) rfl (xi_1 _) (nl_49 rfl) rfl ?_
            refine xr_goto 23 (in_49 rfl) rfl ?_
            exact ih a587 a589 (a591 + (1 : Int32)) m584 w588 w590 h
          · replace h := (if_neg c595).symm.trans h
            refine xr_ift 56 (in_49 rfl) rfl c595 ?_
            refine xr_aload (in_49 rfl) rfl ?_
            obtain ⟨m597, e598, h⟩ := xc_v_e h
            refine xq_callv [xv_r a589] [] [some (xv_r a589)] (xk_V (in_49 rfl) (sh_w n w590)) (cl_49 rfl) rfl rfl rfl rfl (wy_clear_ok n (d + 1) w590 e598) ?_
            refine xr_iconst_ _ (in_49 rfl) (show _ = (0 : Int32) by decide) ?_
            refine xr_istore [some (xv_r 10), some (xv_i a585), some (xv_i a586), some (xv_r a587), some (xv_r a589), some (xv_i a591), some (xv_i (0 : Int32))] (in_49 rfl) (nl_49 rfl) rfl ?_
            refine wt_waysOfSet_l64_ok n d w588 w590 (fun m616 h => ?_) F (0 : Int32) m597 h
            refine xr_aload_n (in_49 rfl) rfl ?_
            refine xr_astore [some (xv_r 10), some (xv_i a585), some (xv_i a586), some (xv_r a587), some (xv_r a589), some (xv_i a591), some (xv_r a587)] (in_49 rfl) (nl_49 rfl) rfl ?_
            refine xr_aload (in_49 rfl) rfl ?_
            refine xr_astore_n [some (xv_r 10), some (xv_i a585), some (xv_i a586), some (xv_r a589), some (xv_r a589), some (xv_i a591), some (xv_r a587)] (in_49 rfl) (nl_49 rfl) rfl ?_
            refine xr_aload (in_49 rfl) rfl ?_
            refine xr_astore [some (xv_r 10), some (xv_i a585), some (xv_i a586), some (xv_r a589), some (xv_r a587), some (xv_i a591), some (xv_r a587)] (in_49 rfl) (nl_49 rfl) rfl ?_
            refine xr_iinc (a591 + (1 : Int32)) [some (xv_r 10), some (xv_i a585), some (xv_i a586), some (xv_r a589), some (xv_r a587), some (xv_i (a591 + (1 : Int32))), some (xv_r a587)] (in_49 rfl) rfl (xi_1 _) (nl_49 rfl) rfl ?_
            refine xr_goto 23 (in_49 rfl) rfl ?_
            refine xr_forget (loc' := [some (xv_r 10), some (xv_i a585), some (xv_i a586), some (xv_r a589), some (xv_r a587), some (xv_i (a591 + (1 : Int32))), none]) (xl_s (xl_s (xl_s (xl_s (xl_s (xl_s (xl_o xl_n))))))) ?_
            exact ih a589 a587 (a591 + (1 : Int32)) m616 w590 w588 h
        · replace h := (if_neg c594).symm.trans h
          refine xr_ift 119 (in_49 rfl) rfl c594 ?_
          refine xr_forget (loc' := [none, none, none, some (xv_r a587), none, none, none]) (xl_o (xl_o (xl_o (xl_s (xl_o (xl_o (xl_o xl_n))))))) ?_
          exact hk a587 m584 w588 h
def wt_waysOfSet (F : Nat) (n : Nat) (a1 : Int32) (a2 : Int32) (m : xm_S) : Option (Nat × xm_S) := xc_v (wy_clear F 16 m) fun m577 => xc_v (wy_add F 16 (0 : Int64) m577) fun m581 => wt_waysOfSet_l23 F n a1 a2 (fun (x617 : Nat) (m619 : xm_S) => some (x617, m619)) F 16 18 (0 : Int32) m581
theorem wt_waysOfSet_ok {xt : Nat → Nat × (Nat → Int32)} (n d : Nat) {F : Nat} {a1 : Int32} {a2 : Int32} {m m' : xm_S} {r : Nat} (h : wt_waysOfSet F n a1 a2 m = some (r, m')) : xm_Run pg xt (d + 2) 49 0 0 (xQ_r (sh n) r m') 0 [some (xv_r 10), some (xv_i a1), some (xv_i a2), none, none, none, none] [] (xq_2 (sh n) m) 0 0 := by
  unfold wt_waysOfSet at h
  refine xr_aload_n (in_49 rfl) rfl ?_
  refine xq_getr (in_49 rfl) (fo_49 rfl) (sh_10 n) rfl ?_
  refine xr_astore_n [some (xv_r 10), some (xv_i a1), some (xv_i a2), some (xv_r 16), none, none, none] (in_49 rfl) (nl_49 rfl) rfl ?_
  refine xr_aload_n (in_49 rfl) rfl ?_
  refine xq_getr (in_49 rfl) (fo_49 rfl) (sh_10 n) rfl ?_
  refine xr_astore [some (xv_r 10), some (xv_i a1), some (xv_i a2), some (xv_r 16), some (xv_r 18), none, none] (in_49 rfl) (nl_49 rfl) rfl ?_
  refine xr_aload_n (in_49 rfl) rfl ?_
  obtain ⟨m577, e578, h⟩ := xc_v_e h
  refine xq_callv [xv_r 16] [] [some (xv_r 16)] (xk_V (in_49 rfl) (sh_16 n)) (cl_49 rfl) rfl rfl rfl rfl (wy_clear_ok n (d + 1) xw_A e578) ?_
  refine xr_aload_n (in_49 rfl) rfl ?_
  refine xr_lconst_ _ (in_49 rfl) (show _ = (0 : Int64) by decide) ?_
  obtain ⟨m581, e582, h⟩ := xc_v_e h
  refine xq_callv [xv_r 16, xv_l (0 : Int64)] [] [some (xv_r 16), some (xv_l (0 : Int64)), none, none, none, none] (xk_V (in_49 rfl) (sh_16 n)) (cl_49 rfl) rfl rfl rfl rfl (wy_add_ok n (d + 1) xw_A e582) ?_
  refine xr_iconst_ _ (in_49 rfl) (show _ = (0 : Int32) by decide) ?_
  refine xr_istore [some (xv_r 10), some (xv_i a1), some (xv_i a2), some (xv_r 16), some (xv_r 18), some (xv_i (0 : Int32)), none] (in_49 rfl) (nl_49 rfl) rfl ?_
  refine wt_waysOfSet_l23_ok n d (fun x617 m619 w618 h => ?_) F 16 18 (0 : Int32) m581 xw_A xw_B h
  refine xr_aload_n (in_49 rfl) rfl ?_
  obtain ⟨rfl, rfl⟩ := Prod.mk.inj (Option.some.inj h)
  exact xr_aret (kd_49) (in_49 rfl) (Nat.le_refl _) (Nat.le_refl _) ⟨rfl, rfl⟩
def wy_putOffSet (a0 : Int64) : Int32 := (a0 >>> ((28 : Int32).toInt64 &&& 63)).toInt32
theorem wy_putOffSet_ok {xt : Nat → Nat × (Nat → Int32)} (n d : Nat) {a0 : Int64} {m : xm_S} {r : Int32} (h : wy_putOffSet a0 = r) : xm_Run pg xt d 50 0 0 (xQ_i (sh n) r m) 0 [some (xv_l a0), none] [] (xq_2 (sh n) m) 0 0 := by
  unfold wy_putOffSet at h
  refine xr_lload_n (in_50 rfl) rfl ?_
  refine xr_bipush_ _ (in_50 rfl) (show _ = (28 : Int32) by decide) ?_
  refine xr_lshr (in_50 rfl) ?_
  refine xr_l2i (in_50 rfl) ?_
  subst h
  exact xr_iret (kd_50) (in_50 rfl) (Nat.le_refl _) (Nat.le_refl _) ⟨rfl, rfl⟩
def au_firstPutOff_l2 (F : Nat) (a642 : Int32) (k : xm_S → Option (Int32 × xm_S)) : Nat → Int32 → xm_S → Option (Int32 × xm_S)
  | 0, _, _ => none
  | fu + 1, a643, m641 => if (m641.1 20 3) ≤ a643 then k m641 else xg_n a643 28 (if ((a642 >>> ((m641.1 21 a643.toNatClampNeg) &&& 31)) &&& (1 : Int32)) = 0 then au_firstPutOff_l2 F a642 k fu (a643 + (1 : Int32)) m641 else some (a643, m641))
theorem au_firstPutOff_l2_ok {xt : Nat → Nat × (Nat → Int32)} (n d : Nat) {F : Nat} {a642 : Int32} {k : xm_S → Option (Int32 × xm_S)} {r : Int32} {m' : xm_S} 
    (hk : ∀ (m : xm_S), k m = some (r, m') → xm_Run pg xt d 51 0 0 (xQ_i (sh n) r m') 31 [none, none, none, none] [] (xq_2 (sh n) m) 0 0) :
    ∀ (fu : Nat) (a643 : Int32) (m641 : xm_S), au_firstPutOff_l2 F a642 k fu a643 m641 = some (r, m') → xm_Run pg xt d 51 0 0 (xQ_i (sh n) r m') 2 [some (xv_r 20), none, some (xv_i a642), some (xv_i a643)] [] (xq_2 (sh n) m641) 0 0 := by
  intro fu
  induction fu with
  | zero => intro a643 m641 h; cases h
  | succ fu ih =>
    intro a643 m641 h
    rw [au_firstPutOff_l2] at h
    refine xr_iload_n (in_51 rfl) rfl ?_
    refine xr_aload_n (in_51 rfl) rfl ?_
    refine xq_geti (in_51 rfl) (fo_51 rfl) (sh_20 n) rfl ?_
    by_cases c644 : (m641.1 20 3) ≤ a643
    · replace h := (if_pos c644).symm.trans h
      refine xr_ict 31 (in_51 rfl) rfl c644 ?_
      refine xr_forget (loc' := [none, none, none, none]) (xl_o (xl_o (xl_o (xl_o xl_n)))) ?_
      exact hk m641 h
    · replace h := (if_neg c644).symm.trans h
      refine xr_icf 31 (in_51 rfl) rfl c644 ?_
      refine xr_iload_n (in_51 rfl) rfl ?_
      refine xr_aload_n (in_51 rfl) rfl ?_
      refine xq_getr (in_51 rfl) (fo_51 rfl) (sh_20 n) rfl ?_
      refine xr_iload_n (in_51 rfl) rfl ?_
      obtain ⟨o645, h⟩ := xg_e h
      refine xq_iald (in_51 rfl) (sh_21 n) o645 ?_
      refine xr_ishr (in_51 rfl) ?_
      refine xr_iconst_ _ (in_51 rfl) (show _ = (1 : Int32) by decide) ?_
      refine xr_iand (in_51 rfl) ?_
      by_cases c646 : ((a642 >>> ((m641.1 21 a643.toNatClampNeg) &&& 31)) &&& (1 : Int32)) = 0
      · replace h := (if_pos c646).symm.trans h
        refine xr_ift 25 (in_51 rfl) rfl c646 ?_
        refine xr_iinc (a643 + (1 : Int32)) [some (xv_r 20), none, some (xv_i a642), some (xv_i (a643 + (1 : Int32)))] (in_51 rfl) rfl (xi_1 _) (nl_51 rfl) rfl ?_
        refine xr_goto 2 (in_51 rfl) rfl ?_
        exact ih (a643 + (1 : Int32)) m641 h
      · replace h := (if_neg c646).symm.trans h
        refine xr_iff 25 (in_51 rfl) rfl c646 ?_
        refine xr_iload_n (in_51 rfl) rfl ?_
        obtain ⟨rfl, rfl⟩ := Prod.mk.inj (Option.some.inj h)
        exact xr_iret (kd_51) (in_51 rfl) (Nat.le_refl _) (Nat.le_refl _) ⟨rfl, rfl⟩
def au_firstPutOff (F : Nat) (a1 : Int32) (a2 : Int32) (m : xm_S) : Option (Int32 × xm_S) := au_firstPutOff_l2 F a2 (fun (m647 : xm_S) => some ((-1 : Int32), m647)) F a1 m
theorem au_firstPutOff_ok {xt : Nat → Nat × (Nat → Int32)} (n d : Nat) {F : Nat} {a1 : Int32} {a2 : Int32} {m m' : xm_S} {r : Int32} (h : au_firstPutOff F a1 a2 m = some (r, m')) : xm_Run pg xt d 51 0 0 (xQ_i (sh n) r m') 0 [some (xv_r 20), some (xv_i a1), some (xv_i a2), none] [] (xq_2 (sh n) m) 0 0 := by
  unfold au_firstPutOff at h
  refine xr_iload_n (in_51 rfl) rfl ?_
  refine xr_istore_n [some (xv_r 20), some (xv_i a1), some (xv_i a2), some (xv_i a1)] (in_51 rfl) (nl_51 rfl) rfl ?_
  refine xr_forget (loc' := [some (xv_r 20), none, some (xv_i a2), some (xv_i a1)]) (xl_s (xl_o (xl_s (xl_s xl_n)))) ?_
  refine au_firstPutOff_l2_ok n d (fun m647 h => ?_) F a1 m h
  refine xr_iconst_ _ (in_51 rfl) (show _ = (-1 : Int32) by decide) ?_
  obtain ⟨rfl, rfl⟩ := Prod.mk.inj (Option.some.inj h)
  exact xr_iret (kd_51) (in_51 rfl) (Nat.le_refl _) (Nat.le_refl _) ⟨rfl, rfl⟩
def wy_nextSet (a0 : Int64) : Int32 := (a0 &&& (268435455 : Int64)).toInt32
theorem wy_nextSet_ok {xt : Nat → Nat × (Nat → Int32)} (n d : Nat) {a0 : Int64} {m : xm_S} {r : Int32} (h : wy_nextSet a0 = r) : xm_Run pg xt d 52 0 0 (xQ_i (sh n) r m) 0 [some (xv_l a0), none] [] (xq_2 (sh n) m) 0 0 := by
  unfold wy_nextSet at h
  refine xr_lload_n (in_52 rfl) rfl ?_
  refine xr_ldc2 (in_52 rfl) (ko_52 rfl) ?_
  refine xr_land (in_52 rfl) ?_
  refine xr_l2i (in_52 rfl) ?_
  subst h
  exact xr_iret (kd_52) (in_52 rfl) (Nat.le_refl _) (Nat.le_refl _) ⟨rfl, rfl⟩
