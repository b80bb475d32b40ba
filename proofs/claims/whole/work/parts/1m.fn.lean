/-! Methods as functions, and that they run so (written by program). -/
def la_law_l18 (F : Nat) (xt : Nat → Nat × (Nat → Int32)) (k : Nat → xm_S → Option (Int32 × Nat × xm_S)) : Nat → Int32 → Nat → xm_S → Option (Int32 × Nat × xm_S)
  | 0, _, _, _ => none
  | fu + 1, a2320, n2319, m2318 => if ((nI (xt 0).1) - (8 : Int32)) < a2320 then k n2319 m2318 else xg_n a2320 (xt 0).1 (if (((xt 0).2 a2320.toNatClampNeg) &&& (15 : Int32)) = (0 : Int32) then xg_n (a2320 + (1 : Int32)) (xt 0).1 (xg_n (a2320 + (2 : Int32)) (xt 0).1 (xg_n (a2320 + (3 : Int32)) (xt 0).1 (xc_m (mk_formula F ((xt 0).2 (a2320 + (1 : Int32)).toNatClampNeg) ((xt 0).2 (a2320 + (2 : Int32)).toNatClampNeg) ((xt 0).2 (a2320 + (3 : Int32)).toNatClampNeg) m2318) fun v2327 m2328 => xg_n (a2320 + (1 : Int32)) (xt 0).1 (xg_n (a2320 + (2 : Int32)) (xt 0).1 (xg_n (a2320 + (3 : Int32)) (xt 0).1 (xc_m (mm_formula F ((xt 0).2 (a2320 + (1 : Int32)).toNatClampNeg) ((xt 0).2 (a2320 + (2 : Int32)).toNatClampNeg) ((xt 0).2 (a2320 + (3 : Int32)).toNatClampNeg) m2328) fun v2334 m2335 => if v2327 = v2334 then la_law_l18 F xt k fu (a2320 + (8 : Int32)) n2319 m2335 else some ((0 : Int32), n2319, m2335))))))) else if (((xt 0).2 a2320.toNatClampNeg) &&& (15 : Int32)) = (1 : Int32) then xg_n (a2320 + (1 : Int32)) (xt 0).1 (xc_m (mk_dual F xt ((xt 0).2 (a2320 + (1 : Int32)).toNatClampNeg) m2318) fun v2341 m2342 => xg_n (a2320 + (1 : Int32)) (xt 0).1 (xc_m (mm_dual F ((xt 0).2 (a2320 + (1 : Int32)).toNatClampNeg) m2342) fun v2346 m2347 => if v2341 = v2346 then la_law_l18 F xt k fu (a2320 + (8 : Int32)) n2319 m2347 else some ((0 : Int32), n2319, m2347))) else if (((xt 0).2 a2320.toNatClampNeg) &&& (15 : Int32)) = (2 : Int32) then if (mk_formulas m2318) = (mm_formulas m2318) then la_law_l18 F xt k fu (a2320 + (8 : Int32)) n2319 m2318 else some ((0 : Int32), n2319, m2318) else if (((xt 0).2 a2320.toNatClampNeg) &&& (15 : Int32)) = (3 : Int32) then xg_n (a2320 + (1 : Int32)) (xt 0).1 (xg_n (a2320 + (2 : Int32)) (xt 0).1 (xg_n (a2320 + (3 : Int32)) (xt 0).1 (xg_n (a2320 + (4 : Int32)) (xt 0).1 (xg_n (a2320 + (5 : Int32)) (xt 0).1 (xg_n (a2320 + (6 : Int32)) (xt 0).1 (xg_n (a2320 + (7 : Int32)) (xt 0).1 (xc_m (mk_has F ((xt 0).2 (a2320 + (1 : Int32)).toNatClampNeg) (((((xt 0).2 (a2320 + (2 : Int32)).toNatClampNeg).toInt64) <<< ((32 : Int32).toInt64 &&& 63)) ||| ((((xt 0).2 (a2320 + (3 : Int32)).toNatClampNeg).toInt64) &&& (4294967295 : Int64))) ((xt 0).2 (a2320 + (4 : Int32)).toNatClampNeg) (((((xt 0).2 (a2320 + (5 : Int32)).toNatClampNeg).toInt64) <<< ((32 : Int32).toInt64 &&& 63)) ||| ((((xt 0).2 (a2320 + (6 : Int32)).toNatClampNeg).toInt64) &&& (4294967295 : Int64))) ((xt 0).2 (a2320 + (7 : Int32)).toNatClampNeg) m2318) fun v2361 m2362 => xg_n (a2320 + (1 : Int32)) (xt 0).1 (xg_n (a2320 + (2 : Int32)) (xt 0).1 (xg_n (a2320 + (3 : Int32)) (xt 0).1 (xg_n (a2320 + (4 : Int32)) (xt 0).1 (xg_n (a2320 + (5 : Int32)) (xt 0).1 (xg_n (a2320 + (6 : Int32)) (xt 0).1 (xg_n (a2320 + (7 : Int32)) (xt 0).1 (xc_m (mm_has F ((xt 0).2 (a2320 + (1 : Int32)).toNatClampNeg) (((((xt 0).2 (a2320 + (2 : Int32)).toNatClampNeg).toInt64) <<< ((32 : Int32).toInt64 &&& 63)) ||| ((((xt 0).2 (a2320 + (3 : Int32)).toNatClampNeg).toInt64) &&& (4294967295 : Int64))) ((xt 0).2 (a2320 + (4 : Int32)).toNatClampNeg) (((((xt 0).2 (a2320 + (5 : Int32)).toNatClampNeg).toInt64) <<< ((32 : Int32).toInt64 &&& 63)) ||| ((((xt 0).2 (a2320 + (6 : Int32)).toNatClampNeg).toInt64) &&& (4294967295 : Int64))) ((xt 0).2 (a2320 + (7 : Int32)).toNatClampNeg) m2362) fun v2372 m2373 => if v2361 = v2372 then la_law_l18 F xt k fu (a2320 + (8 : Int32)) n2319 m2373 else some ((0 : Int32), n2319, m2373))))))))))))))) else if (((xt 0).2 a2320.toNatClampNeg) &&& (15 : Int32)) = (4 : Int32) then xg_n (a2320 + (1 : Int32)) (xt 0).1 (xg_n (a2320 + (2 : Int32)) (xt 0).1 (xc_a n2319 (mk_ways F n2319 ((xt 0).2 (a2320 + (1 : Int32)).toNatClampNeg) ((xt 0).2 (a2320 + (2 : Int32)).toNatClampNeg) m2318) fun v2380 n2383 m2381 => xg_n (a2320 + (1 : Int32)) (xt 0).1 (xg_n (a2320 + (2 : Int32)) (xt 0).1 (xc_m (mm_ways F ((xt 0).2 (a2320 + (1 : Int32)).toNatClampNeg) ((xt 0).2 (a2320 + (2 : Int32)).toNatClampNeg) m2381) fun v2387 m2388 => if v2380 = v2387 then la_law_l18 F xt k fu (a2320 + (8 : Int32)) n2383 m2388 else some ((0 : Int32), n2383, m2388))))) else if (((xt 0).2 a2320.toNatClampNeg) &&& (15 : Int32)) = (5 : Int32) then xg_n (a2320 + (1 : Int32)) (xt 0).1 (xc_a n2319 (mk_states F n2319 ((xt 0).2 (a2320 + (1 : Int32)).toNatClampNeg) m2318) fun v2394 n2397 m2395 => xg_n (a2320 + (1 : Int32)) (xt 0).1 (xc_m (mm_states F ((xt 0).2 (a2320 + (1 : Int32)).toNatClampNeg) m2395) fun v2400 m2401 => if v2394 = v2400 then la_law_l18 F xt k fu (a2320 + (8 : Int32)) n2397 m2401 else some ((0 : Int32), n2397, m2401))) else if (((xt 0).2 a2320.toNatClampNeg) &&& (15 : Int32)) = (6 : Int32) then xg_n (a2320 + (1 : Int32)) (xt 0).1 (xg_n (a2320 + (2 : Int32)) (xt 0).1 (xc_a n2319 (mk_solve F xt n2319 ((xt 0).2 (a2320 + (1 : Int32)).toNatClampNeg) ((xt 0).2 (a2320 + (2 : Int32)).toNatClampNeg) m2318) fun v2408 n2411 m2409 => xg_n (a2320 + (1 : Int32)) (xt 0).1 (xg_n (a2320 + (2 : Int32)) (xt 0).1 (xc_m (mm_solve F ((xt 0).2 (a2320 + (1 : Int32)).toNatClampNeg) ((xt 0).2 (a2320 + (2 : Int32)).toNatClampNeg) m2409) fun v2415 m2416 => if v2408 = v2415 then la_law_l18 F xt k fu (a2320 + (8 : Int32)) n2411 m2416 else some ((0 : Int32), n2411, m2416))))) else if (((xt 0).2 a2320.toNatClampNeg) &&& (15 : Int32)) = (7 : Int32) then xg_n (a2320 + (1 : Int32)) (xt 0).1 (xg_n (a2320 + (1 : Int32)) (xt 0).1 (if (mk_size ((xt 0).2 (a2320 + (1 : Int32)).toNatClampNeg) m2318) = (mm_size ((xt 0).2 (a2320 + (1 : Int32)).toNatClampNeg) m2318) then la_law_l18 F xt k fu (a2320 + (8 : Int32)) n2319 m2318 else some ((0 : Int32), n2319, m2318))) else if (((xt 0).2 a2320.toNatClampNeg) &&& (15 : Int32)) = (8 : Int32) then xg_n (a2320 + (1 : Int32)) (xt 0).1 (xg_n (a2320 + (2 : Int32)) (xt 0).1 (xc_m (mk_gives F ((xt 0).2 (a2320 + (1 : Int32)).toNatClampNeg) ((xt 0).2 (a2320 + (2 : Int32)).toNatClampNeg) m2318) fun v2427 m2428 => xg_n (a2320 + (1 : Int32)) (xt 0).1 (xg_n (a2320 + (2 : Int32)) (xt 0).1 (xc_m (mm_gives F ((xt 0).2 (a2320 + (1 : Int32)).toNatClampNeg) ((xt 0).2 (a2320 + (2 : Int32)).toNatClampNeg) m2428) fun v2433 m2434 => if v2427 = v2433 then la_law_l18 F xt k fu (a2320 + (8 : Int32)) n2319 m2434 else some ((0 : Int32), n2319, m2434))))) else if (((xt 0).2 a2320.toNatClampNeg) &&& (15 : Int32)) = (9 : Int32) then xg_n (a2320 + (1 : Int32)) (xt 0).1 (xg_n (a2320 + (2 : Int32)) (xt 0).1 (xc_m (mk_next F ((xt 0).2 (a2320 + (1 : Int32)).toNatClampNeg) ((xt 0).2 (a2320 + (2 : Int32)).toNatClampNeg) m2318) fun v2441 m2442 => xg_n (a2320 + (1 : Int32)) (xt 0).1 (xg_n (a2320 + (2 : Int32)) (xt 0).1 (xc_m (mm_next F ((xt 0).2 (a2320 + (1 : Int32)).toNatClampNeg) ((xt 0).2 (a2320 + (2 : Int32)).toNatClampNeg) m2442) fun v2447 m2448 => if v2441 = v2447 then la_law_l18 F xt k fu (a2320 + (8 : Int32)) n2319 m2448 else some ((0 : Int32), n2319, m2448))))) else la_law_l18 F xt k fu (a2320 + (8 : Int32)) n2319 m2318)
theorem la_law_l18_ok {xt : Nat → Nat × (Nat → Int32)} (d : Nat) {F : Nat} {k : Nat → xm_S → Option (Int32 × Nat × xm_S)} {r : Int32} {m' : xm_S} {n' C0 S0 : Nat} 
    (hk : ∀ (n : Nat) (m : xm_S) (nc ns : Nat), nc + n' ≤ C0 + n → ns + xk_s n' ≤ S0 + xk_s n → k n m = some (r, n', m') → xm_Run pg xt (d + 34) 0 C0 S0 (xQ_i (sh n') r m') 478 [none, none, none, none] [] (xq_2 (sh n) m) nc ns) :
    ∀ (fu : Nat) (a2320 : Int32) (n2319 : Nat) (m2318 : xm_S) (nc ns : Nat), nc + n' ≤ C0 + n2319 → ns + xk_s n' ≤ S0 + xk_s n2319 → la_law_l18 F xt k fu a2320 n2319 m2318 = some (r, n', m') → xm_Run pg xt (d + 34) 0 C0 S0 (xQ_i (sh n') r m') 18 [some (xv_x 0), some (xv_r 0), some (xv_r 35), some (xv_i a2320)] [] (xq_2 (sh n2319) m2318) nc ns := by
  intro fu
  induction fu with
  | zero => intro a2320 n2319 m2318 nc ns hnc hns h; cases h
  | succ fu ih =>
    intro a2320 n2319 m2318 nc ns hnc hns h
    rw [la_law_l18] at h
    refine xr_iload_n (in_0 rfl) rfl ?_
    refine xr_aload_nx (in_0 rfl) rfl ?_
    refine xr_alenx (in_0 rfl) ?_
    refine xr_bipush_ _ (in_0 rfl) (show _ = (8 : Int32) by decide) ?_
    refine xr_isub (in_0 rfl) ?_
    by_cases c2321 : ((nI (xt 0).1) - (8 : Int32)) < a2320
    · replace h := (if_pos c2321).symm.trans h
      refine xr_ict 478 (in_0 rfl) rfl c2321 ?_
      refine xr_forget (loc' := [none, none, none, none]) (xl_o (xl_o (xl_o (xl_o xl_n)))) ?_
      exact hk n2319 m2318 _ _ (by omega) (by omega) h
    · replace h := (if_neg c2321).symm.trans h
      refine xr_icf 478 (in_0 rfl) rfl c2321 ?_
      refine xr_aload_nx (in_0 rfl) rfl ?_
      refine xr_iload_n (in_0 rfl) rfl ?_
      obtain ⟨o2322, h⟩ := xg_e h
      refine xr_ialdx (in_0 rfl) o2322 ?_
      refine xr_bipush_ _ (in_0 rfl) (show _ = (15 : Int32) by decide) ?_
      refine xr_iand (in_0 rfl) ?_
      by_cases c2323 : (((xt 0).2 a2320.toNatClampNeg) &&& (15 : Int32)) = (0 : Int32)
      · replace h := (if_pos c2323).symm.trans h
        refine xr_swi 88 (in_0 rfl) (by rw [c2323]; decide) (by rw [c2323]; decide) (by rw [c2323]; rfl) rfl ?_
        refine xr_aload_n (in_0 rfl) rfl ?_
        refine xr_aload_nx (in_0 rfl) rfl ?_
        refine xr_iload_n (in_0 rfl) rfl ?_
        refine xr_iconst_ _ (in_0 rfl) (show _ = (1 : Int32) by decide) ?_
        refine xr_iadd (in_0 rfl) ?_
        obtain ⟨o2324, h⟩ := xg_e h
        refine xr_ialdx (in_0 rfl) o2324 ?_
        refine xr_aload_nx (in_0 rfl) rfl ?_
        refine xr_iload_n (in_0 rfl) rfl ?_
        refine xr_iconst_ _ (in_0 rfl) (show _ = (2 : Int32) by decide) ?_
        refine xr_iadd (in_0 rfl) ?_
        obtain ⟨o2325, h⟩ := xg_e h
        refine xr_ialdx (in_0 rfl) o2325 ?_
        refine xr_aload_nx (in_0 rfl) rfl ?_
        refine xr_iload_n (in_0 rfl) rfl ?_
        refine xr_iconst_ _ (in_0 rfl) (show _ = (3 : Int32) by decide) ?_
        refine xr_iadd (in_0 rfl) ?_
        obtain ⟨o2326, h⟩ := xg_e h
        refine xr_ialdx (in_0 rfl) o2326 ?_
        obtain ⟨v2327, m2328, e2329, h⟩ := xc_m_e h
        refine xq_calla [xv_r 0, xv_i ((xt 0).2 (a2320 + (1 : Int32)).toNatClampNeg), xv_i ((xt 0).2 (a2320 + (2 : Int32)).toNatClampNeg), xv_i ((xt 0).2 (a2320 + (3 : Int32)).toNatClampNeg)] [] [some (xv_r 0), some (xv_i ((xt 0).2 (a2320 + (1 : Int32)).toNatClampNeg)), some (xv_i ((xt 0).2 (a2320 + (2 : Int32)).toNatClampNeg)), some (xv_i ((xt 0).2 (a2320 + (3 : Int32)).toNatClampNeg))] (xk_V (in_0 rfl) (sh_0 n2319)) (cl_0 rfl) rfl rfl rfl rfl (mk_formula_ok n2319 (d + 30) e2329) ?_
        refine xr_aload_n (in_0 rfl) rfl ?_
        refine xr_aload_nx (in_0 rfl) rfl ?_
        refine xr_iload_n (in_0 rfl) rfl ?_
        refine xr_iconst_ _ (in_0 rfl) (show _ = (1 : Int32) by decide) ?_
        refine xr_iadd (in_0 rfl) ?_
        obtain ⟨o2331, h⟩ := xg_e h
        refine xr_ialdx (in_0 rfl) o2331 ?_
        refine xr_aload_nx (in_0 rfl) rfl ?_
        refine xr_iload_n (in_0 rfl) rfl ?_
        refine xr_iconst_ _ (in_0 rfl) (show _ = (2 : Int32) by decide) ?_
        refine xr_iadd (in_0 rfl) ?_
        obtain ⟨o2332, h⟩ := xg_e h
        refine xr_ialdx (in_0 rfl) o2332 ?_
        refine xr_aload_nx (in_0 rfl) rfl ?_
        refine xr_iload_n (in_0 rfl) rfl ?_
        refine xr_iconst_ _ (in_0 rfl) (show _ = (3 : Int32) by decide) ?_
        refine xr_iadd (in_0 rfl) ?_
        obtain ⟨o2333, h⟩ := xg_e h
        refine xr_ialdx (in_0 rfl) o2333 ?_
        obtain ⟨v2334, m2335, e2336, h⟩ := xc_m_e h
        refine xq_calla [xv_r 35, xv_i ((xt 0).2 (a2320 + (1 : Int32)).toNatClampNeg), xv_i ((xt 0).2 (a2320 + (2 : Int32)).toNatClampNeg), xv_i ((xt 0).2 (a2320 + (3 : Int32)).toNatClampNeg)] [xv_i v2327] [some (xv_r 35), some (xv_i ((xt 0).2 (a2320 + (1 : Int32)).toNatClampNeg)), some (xv_i ((xt 0).2 (a2320 + (2 : Int32)).toNatClampNeg)), some (xv_i ((xt 0).2 (a2320 + (3 : Int32)).toNatClampNeg))] (xk_V (in_0 rfl) (sh_35 n2319)) (cl_0 rfl) rfl rfl rfl rfl (mm_formula_ok n2319 (d + 32) e2336) ?_
        by_cases c2338 : v2327 = v2334
        · replace h := (if_pos c2338).symm.trans h
          refine xr_ict 472 (in_0 rfl) rfl c2338 ?_
          refine xr_iinc (a2320 + (8 : Int32)) [some (xv_x 0), some (xv_r 0), some (xv_r 35), some (xv_i (a2320 + (8 : Int32)))] (in_0 rfl) rfl (xi_8 _) (nl_0 rfl) rfl ?_
          refine xr_goto 18 (in_0 rfl) rfl ?_
          exact ih (a2320 + (8 : Int32)) n2319 m2335 _ _ (by omega) (by omega) h
        · replace h := (if_neg c2338).symm.trans h
          refine xr_icf 472 (in_0 rfl) rfl c2338 ?_
          refine xr_iconst_ _ (in_0 rfl) (show _ = (0 : Int32) by decide) ?_
          obtain ⟨rfl, h9⟩ := Prod.mk.inj (Option.some.inj h)
          obtain ⟨rfl, rfl⟩ := Prod.mk.inj h9
          exact xr_zret (kd_0) (in_0 rfl) (by decide) (by omega) (by omega) ⟨rfl, rfl⟩
      replace h := (if_neg c2323).symm.trans h
      by_cases c2339 : (((xt 0).2 a2320.toNatClampNeg) &&& (15 : Int32)) = (1 : Int32)
      · replace h := (if_pos c2339).symm.trans h
        refine xr_swi 131 (in_0 rfl) (by rw [c2339]; decide) (by rw [c2339]; decide) (by rw [c2339]; rfl) rfl ?_
        refine xr_aload_n (in_0 rfl) rfl ?_
        refine xr_aload_nx (in_0 rfl) rfl ?_
        refine xr_iload_n (in_0 rfl) rfl ?_
        refine xr_iconst_ _ (in_0 rfl) (show _ = (1 : Int32) by decide) ?_
        refine xr_iadd (in_0 rfl) ?_
        obtain ⟨o2340, h⟩ := xg_e h
        refine xr_ialdx (in_0 rfl) o2340 ?_
        obtain ⟨v2341, m2342, e2343, h⟩ := xc_m_e h
        refine xq_calla [xv_r 0, xv_i ((xt 0).2 (a2320 + (1 : Int32)).toNatClampNeg)] [] [some (xv_r 0), some (xv_i ((xt 0).2 (a2320 + (1 : Int32)).toNatClampNeg))] (xk_V (in_0 rfl) (sh_0 n2319)) (cl_0 rfl) rfl rfl rfl rfl (mk_dual_ok n2319 d e2343) ?_
        refine xr_aload_n (in_0 rfl) rfl ?_
        refine xr_aload_nx (in_0 rfl) rfl ?_
        refine xr_iload_n (in_0 rfl) rfl ?_
        refine xr_iconst_ _ (in_0 rfl) (show _ = (1 : Int32) by decide) ?_
        refine xr_iadd (in_0 rfl) ?_
        obtain ⟨o2345, h⟩ := xg_e h
        refine xr_ialdx (in_0 rfl) o2345 ?_
        obtain ⟨v2346, m2347, e2348, h⟩ := xc_m_e h
        refine xq_calla [xv_r 35, xv_i ((xt 0).2 (a2320 + (1 : Int32)).toNatClampNeg)] [xv_i v2341] [some (xv_r 35), some (xv_i ((xt 0).2 (a2320 + (1 : Int32)).toNatClampNeg)), none, none, none, none, none, none, none] (xk_V (in_0 rfl) (sh_35 n2319)) (cl_0 rfl) rfl rfl rfl rfl (mm_dual_ok n2319 (d + 32) e2348) ?_
        by_cases c2350 : v2341 = v2346
        · replace h := (if_pos c2350).symm.trans h
          refine xr_ict 472 (in_0 rfl) rfl c2350 ?_
          refine xr_iinc (a2320 + (8 : Int32)) [some (xv_x 0), some (xv_r 0), some (xv_r 35), some (xv_i (a2320 + (8 : Int32)))] (in_0 rfl) rfl (xi_8 _) (nl_0 rfl) rfl ?_
          refine xr_goto 18 (in_0 rfl) rfl ?_
          exact ih (a2320 + (8 : Int32)) n2319 m2347 _ _ (by omega) (by omega) h
        · replace h := (if_neg c2350).symm.trans h
          refine xr_icf 472 (in_0 rfl) rfl c2350 ?_
          refine xr_iconst_ _ (in_0 rfl) (show _ = (0 : Int32) by decide) ?_
          obtain ⟨rfl, h9⟩ := Prod.mk.inj (Option.some.inj h)
          obtain ⟨rfl, rfl⟩ := Prod.mk.inj h9
          exact xr_zret (kd_0) (in_0 rfl) (by decide) (by omega) (by omega) ⟨rfl, rfl⟩
      replace h := (if_neg c2339).symm.trans h
      by_cases c2351 : (((xt 0).2 a2320.toNatClampNeg) &&& (15 : Int32)) = (2 : Int32)
      · replace h := (if_pos c2351).symm.trans h
        refine xr_swi 154 (in_0 rfl) (by rw [c2351]; decide) (by rw [c2351]; decide) (by rw [c2351]; rfl) rfl ?_
        refine xr_aload_n (in_0 rfl) rfl ?_
        refine xq_calla [xv_r 0] [] [some (xv_r 0)] (xk_V (in_0 rfl) (sh_0 n2319)) (cl_0 rfl) rfl rfl rfl rfl (mk_formulas_ok n2319 (d + 33) rfl) ?_
        refine xr_aload_n (in_0 rfl) rfl ?_
        refine xq_calla [xv_r 35] [xv_i (mk_formulas m2318)] [some (xv_r 35)] (xk_V (in_0 rfl) (sh_35 n2319)) (cl_0 rfl) rfl rfl rfl rfl (mm_formulas_ok n2319 (d + 33) rfl) ?_
        by_cases c2352 : (mk_formulas m2318) = (mm_formulas m2318)
        · replace h := (if_pos c2352).symm.trans h
          refine xr_ict 472 (in_0 rfl) rfl c2352 ?_
          refine xr_iinc (a2320 + (8 : Int32)) [some (xv_x 0), some (xv_r 0), some (xv_r 35), some (xv_i (a2320 + (8 : Int32)))] (in_0 rfl) rfl (xi_8 _) (nl_0 rfl) rfl ?_
          refine xr_goto 18 (in_0 rfl) rfl ?_
          exact ih (a2320 + (8 : Int32)) n2319 m2318 _ _ (by omega) (by omega) h
        · replace h := (if_neg c2352).symm.trans h
          refine xr_icf 472 (in_0 rfl) rfl c2352 ?_
          refine xr_iconst_ _ (in_0 rfl) (show _ = (0 : Int32) by decide) ?_
          obtain ⟨rfl, h9⟩ := Prod.mk.inj (Option.some.inj h)
          obtain ⟨rfl, rfl⟩ := Prod.mk.inj h9
          exact xr_zret (kd_0) (in_0 rfl) (by decide) (by omega) (by omega) ⟨rfl, rfl⟩
      replace h := (if_neg c2351).symm.trans h
      by_cases c2353 : (((xt 0).2 a2320.toNatClampNeg) &&& (15 : Int32)) = (3 : Int32)
      · replace h := (if_pos c2353).symm.trans h
        refine xr_swi 167 (in_0 rfl) (by rw [c2353]; decide) (by rw [c2353]; decide) (by rw [c2353]; rfl) rfl ?_
        refine xr_aload_n (in_0 rfl) rfl ?_
        refine xr_aload_nx (in_0 rfl) rfl ?_
        refine xr_iload_n (in_0 rfl) rfl ?_
        refine xr_iconst_ _ (in_0 rfl) (show _ = (1 : Int32) by decide) ?_
        refine xr_iadd (in_0 rfl) ?_
        obtain ⟨o2354, h⟩ := xg_e h
        refine xr_ialdx (in_0 rfl) o2354 ?_
        refine xr_aload_nx (in_0 rfl) rfl ?_
        refine xr_iload_n (in_0 rfl) rfl ?_
        refine xr_iconst_ _ (in_0 rfl) (show _ = (2 : Int32) by decide) ?_
        refine xr_iadd (in_0 rfl) ?_
        obtain ⟨o2355, h⟩ := xg_e h
        refine xr_ialdx (in_0 rfl) o2355 ?_
        refine xr_i2l (in_0 rfl) ?_
        refine xr_bipush_ _ (in_0 rfl) (show _ = (32 : Int32) by decide) ?_
        refine xr_lshl (in_0 rfl) ?_
        refine xr_aload_nx (in_0 rfl) rfl ?_
        refine xr_iload_n (in_0 rfl) rfl ?_
        refine xr_iconst_ _ (in_0 rfl) (show _ = (3 : Int32) by decide) ?_
        refine xr_iadd (in_0 rfl) ?_
        obtain ⟨o2356, h⟩ := xg_e h
        refine xr_ialdx (in_0 rfl) o2356 ?_
        refine xr_i2l (in_0 rfl) ?_
        refine xr_ldc2 (in_0 rfl) (ko_0 rfl) ?_
        refine xr_land (in_0 rfl) ?_
        refine xr_lor (in_0 rfl) ?_
        refine xr_aload_nx (in_0 rfl) rfl ?_
        refine xr_iload_n (in_0 rfl) rfl ?_
        refine xr_iconst_ _ (in_0 rfl) (show _ = (4 : Int32) by decide) ?_
        refine xr_iadd (in_0 rfl) ?_
        obtain ⟨o2357, h⟩ := xg_e h
        refine xr_ialdx (in_0 rfl) o2357 ?_
        refine xr_aload_nx (in_0 rfl) rfl ?_
        refine xr_iload_n (in_0 rfl) rfl ?_
        refine xr_iconst_ _ (in_0 rfl) (show _ = (5 : Int32) by decide) ?_
        refine xr_iadd (in_0 rfl) ?_
        obtain ⟨o2358, h⟩ := xg_e h
        refine xr_ialdx (in_0 rfl) o2358 ?_
        refine xr_i2l (in_0 rfl) ?_
        refine xr_bipush_ _ (in_0 rfl) (show _ = (32 : Int32) by decide) ?_
        refine xr_lshl (in_0 rfl) ?_
        refine xr_aload_nx (in_0 rfl) rfl ?_
        refine xr_iload_n (in_0 rfl) rfl ?_
        refine xr_bipush_ _ (in_0 rfl) (show _ = (6 : Int32) by decide) ?_
        refine xr_iadd (in_0 rfl) ?_
        obtain ⟨o2359, h⟩ := xg_e h
        refine xr_ialdx (in_0 rfl) o2359 ?_
        refine xr_i2l (in_0 rfl) ?_
        refine xr_ldc2 (in_0 rfl) (ko_0 rfl) ?_
        refine xr_land (in_0 rfl) ?_
        refine xr_lor (in_0 rfl) ?_
        refine xr_aload_nx (in_0 rfl) rfl ?_
        refine xr_iload_n (in_0 rfl) rfl ?_
        refine xr_bipush_ _ (in_0 rfl) (show _ = (7 : Int32) by decide) ?_
        refine xr_iadd (in_0 rfl) ?_
        obtain ⟨o2360, h⟩ := xg_e h
        refine xr_ialdx (in_0 rfl) o2360 ?_
        obtain ⟨v2361, m2362, e2363, h⟩ := xc_m_e h
        refine xq_calla [xv_r 0, xv_i ((xt 0).2 (a2320 + (1 : Int32)).toNatClampNeg), xv_l (((((xt 0).2 (a2320 + (2 : Int32)).toNatClampNeg).toInt64) <<< ((32 : Int32).toInt64 &&& 63)) ||| ((((xt 0).2 (a2320 + (3 : Int32)).toNatClampNeg).toInt64) &&& (4294967295 : Int64))), xv_i ((xt 0).2 (a2320 + (4 : Int32)).toNatClampNeg), xv_l (((((xt 0).2 (a2320 + (5 : Int32)).toNatClampNeg).toInt64) <<< ((32 : Int32).toInt64 &&& 63)) ||| ((((xt 0).2 (a2320 + (6 : Int32)).toNatClampNeg).toInt64) &&& (4294967295 : Int64))), xv_i ((xt 0).2 (a2320 + (7 : Int32)).toNatClampNeg)] [] [some (xv_r 0), some (xv_i ((xt 0).2 (a2320 + (1 : Int32)).toNatClampNeg)), some (xv_l (((((xt 0).2 (a2320 + (2 : Int32)).toNatClampNeg).toInt64) <<< ((32 : Int32).toInt64 &&& 63)) ||| ((((xt 0).2 (a2320 + (3 : Int32)).toNatClampNeg).toInt64) &&& (4294967295 : Int64)))), none, some (xv_i ((xt 0).2 (a2320 + (4 : Int32)).toNatClampNeg)), some (xv_l (((((xt 0).2 (a2320 + (5 : Int32)).toNatClampNeg).toInt64) <<< ((32 : Int32).toInt64 &&& 63)) ||| ((((xt 0).2 (a2320 + (6 : Int32)).toNatClampNeg).toInt64) &&& (4294967295 : Int64)))), none, some (xv_i ((xt 0).2 (a2320 + (7 : Int32)).toNatClampNeg))] (xk_V (in_0 rfl) (sh_0 n2319)) (cl_0 rfl) rfl rfl rfl rfl (mk_has_ok n2319 (d + 29) e2363) ?_
        refine xr_aload_n (in_0 rfl) rfl ?_
        refine xr_aload_nx (in_0 rfl) rfl ?_
        refine xr_iload_n (in_0 rfl) rfl ?_
        refine xr_iconst_ _ (in_0 rfl) (show _ = (1 : Int32) by decide) ?_
        refine xr_iadd (in_0 rfl) ?_
        obtain ⟨o2365, h⟩ := xg_e h
        refine xr_ialdx (in_0 rfl) o2365 ?_
        refine xr_aload_nx (in_0 rfl) rfl ?_
        refine xr_iload_n (in_0 rfl) rfl ?_
        refine xr_iconst_ _ (in_0 rfl) (show _ = (2 : Int32) by decide) ?_
        refine xr_iadd (in_0 rfl) ?_
        obtain ⟨o2366, h⟩ := xg_e h
        refine xr_ialdx (in_0 rfl) o2366 ?_
        refine xr_i2l (in_0 rfl) ?_
        refine xr_bipush_ _ (in_0 rfl) (show _ = (32 : Int32) by decide) ?_
        refine xr_lshl (in_0 rfl) ?_
        refine xr_aload_nx (in_0 rfl) rfl ?_
        refine xr_iload_n (in_0 rfl) rfl ?_
        refine xr_iconst_ _ (in_0 rfl) (show _ = (3 : Int32) by decide) ?_
        refine xr_iadd (in_0 rfl) ?_
        obtain ⟨o2367, h⟩ := xg_e h
        refine xr_ialdx (in_0 rfl) o2367 ?_
        refine xr_i2l (in_0 rfl) ?_
        refine xr_ldc2 (in_0 rfl) (ko_0 rfl) ?_
        refine xr_land (in_0 rfl) ?_
        refine xr_lor (in_0 rfl) ?_
        refine xr_aload_nx (in_0 rfl) rfl ?_
        refine xr_iload_n (in_0 rfl) rfl ?_
        refine xr_iconst_ _ (in_0 rfl) (show _ = (4 : Int32) by decide) ?_
        refine xr_iadd (in_0 rfl) ?_
        obtain ⟨o2368, h⟩ := xg_e h
        refine xr_ialdx (in_0 rfl) o2368 ?_
        refine xr_aload_nx (in_0 rfl) rfl ?_
        refine xr_iload_n (in_0 rfl) rfl ?_
        refine xr_iconst_ _ (in_0 rfl) (show _ = (5 : Int32) by decide) ?_
        refine xr_iadd (in_0 rfl) ?_
        obtain ⟨o2369, h⟩ := xg_e h
        refine xr_ialdx (in_0 rfl) o2369 ?_
        refine xr_i2l (in_0 rfl) ?_
        refine xr_bipush_ _ (in_0 rfl) (show _ = (32 : Int32) by decide) ?_
        refine xr_lshl (in_0 rfl) ?_
        refine xr_aload_nx (in_0 rfl) rfl ?_
        refine xr_iload_n (in_0 rfl) rfl ?_
        refine xr_bipush_ _ (in_0 rfl) (show _ = (6 : Int32) by decide) ?_
        refine xr_iadd (in_0 rfl) ?_
        obtain ⟨o2370, h⟩ := xg_e h
        refine xr_ialdx (in_0 rfl) o2370 ?_
        refine xr_i2l (in_0 rfl) ?_
        refine xr_ldc2 (in_0 rfl) (ko_0 rfl) ?_
        refine xr_land (in_0 rfl) ?_
        refine xr_lor (in_0 rfl) ?_
        refine xr_aload_nx (in_0 rfl) rfl ?_
        refine xr_iload_n (in_0 rfl) rfl ?_
        refine xr_bipush_ _ (in_0 rfl) (show _ = (7 : Int32) by decide) ?_
        refine xr_iadd (in_0 rfl) ?_
        obtain ⟨o2371, h⟩ := xg_e h
        refine xr_ialdx (in_0 rfl) o2371 ?_
        obtain ⟨v2372, m2373, e2374, h⟩ := xc_m_e h
        refine xq_calla [xv_r 35, xv_i ((xt 0).2 (a2320 + (1 : Int32)).toNatClampNeg), xv_l (((((xt 0).2 (a2320 + (2 : Int32)).toNatClampNeg).toInt64) <<< ((32 : Int32).toInt64 &&& 63)) ||| ((((xt 0).2 (a2320 + (3 : Int32)).toNatClampNeg).toInt64) &&& (4294967295 : Int64))), xv_i ((xt 0).2 (a2320 + (4 : Int32)).toNatClampNeg), xv_l (((((xt 0).2 (a2320 + (5 : Int32)).toNatClampNeg).toInt64) <<< ((32 : Int32).toInt64 &&& 63)) ||| ((((xt 0).2 (a2320 + (6 : Int32)).toNatClampNeg).toInt64) &&& (4294967295 : Int64))), xv_i ((xt 0).2 (a2320 + (7 : Int32)).toNatClampNeg)] [xv_i v2361] [some (xv_r 35), some (xv_i ((xt 0).2 (a2320 + (1 : Int32)).toNatClampNeg)), some (xv_l (((((xt 0).2 (a2320 + (2 : Int32)).toNatClampNeg).toInt64) <<< ((32 : Int32).toInt64 &&& 63)) ||| ((((xt 0).2 (a2320 + (3 : Int32)).toNatClampNeg).toInt64) &&& (4294967295 : Int64)))), none, some (xv_i ((xt 0).2 (a2320 + (4 : Int32)).toNatClampNeg)), some (xv_l (((((xt 0).2 (a2320 + (5 : Int32)).toNatClampNeg).toInt64) <<< ((32 : Int32).toInt64 &&& 63)) ||| ((((xt 0).2 (a2320 + (6 : Int32)).toNatClampNeg).toInt64) &&& (4294967295 : Int64)))), none, some (xv_i ((xt 0).2 (a2320 + (7 : Int32)).toNatClampNeg)), none, none, none, none, none, none, none, none] (xk_V (in_0 rfl) (sh_35 n2319)) (cl_0 rfl) rfl rfl rfl rfl (mm_has_ok n2319 (d + 31) e2374) ?_
        by_cases c2376 : v2361 = v2372
        · replace h := (if_pos c2376).symm.trans h
          refine xr_ict 472 (in_0 rfl) rfl c2376 ?_
          refine xr_iinc (a2320 + (8 : Int32)) [some (xv_x 0), some (xv_r 0), some (xv_r 35), some (xv_i (a2320 + (8 : Int32)))] (in_0 rfl) rfl (xi_8 _) (nl_0 rfl) rfl ?_
          refine xr_goto 18 (in_0 rfl) rfl ?_
          exact ih (a2320 + (8 : Int32)) n2319 m2373 _ _ (by omega) (by omega) h
        · replace h := (if_neg c2376).symm.trans h
          refine xr_icf 472 (in_0 rfl) rfl c2376 ?_
          refine xr_iconst_ _ (in_0 rfl) (show _ = (0 : Int32) by decide) ?_
          obtain ⟨rfl, h9⟩ := Prod.mk.inj (Option.some.inj h)
          obtain ⟨rfl, rfl⟩ := Prod.mk.inj h9
          exact xr_zret (kd_0) (in_0 rfl) (by decide) (by omega) (by omega) ⟨rfl, rfl⟩
      replace h := (if_neg c2353).symm.trans h
      by_cases c2377 : (((xt 0).2 a2320.toNatClampNeg) &&& (15 : Int32)) = (4 : Int32)
      · replace h := (if_pos c2377).symm.trans h
        refine xr_swi 294 (in_0 rfl) (by rw [c2377]; decide) (by rw [c2377]; decide) (by rw [c2377]; rfl) rfl ?_
        refine xr_aload_n (in_0 rfl) rfl ?_
        refine xr_aload_nx (in_0 rfl) rfl ?_
        refine xr_iload_n (in_0 rfl) rfl ?_
        refine xr_iconst_ _ (in_0 rfl) (show _ = (1 : Int32) by decide) ?_
        refine xr_iadd (in_0 rfl) ?_
        obtain ⟨o2378, h⟩ := xg_e h
        refine xr_ialdx (in_0 rfl) o2378 ?_
        refine xr_aload_nx (in_0 rfl) rfl ?_
        refine xr_iload_n (in_0 rfl) rfl ?_
        refine xr_iconst_ _ (in_0 rfl) (show _ = (2 : Int32) by decide) ?_
        refine xr_iadd (in_0 rfl) ?_
        obtain ⟨o2379, h⟩ := xg_e h
        refine xr_ialdx (in_0 rfl) o2379 ?_
        obtain ⟨v2380, n2383, m2381, e2382, l2384, h⟩ := xc_a_e h
        have l2384c := xk_mono l2384
        refine xq_callan (c1 := n2383 - n2319) (s1 := xk_s n2383 - xk_s n2319) [xv_r 0, xv_i ((xt 0).2 (a2320 + (1 : Int32)).toNatClampNeg), xv_i ((xt 0).2 (a2320 + (2 : Int32)).toNatClampNeg)] [] [some (xv_r 0), some (xv_i ((xt 0).2 (a2320 + (1 : Int32)).toNatClampNeg)), some (xv_i ((xt 0).2 (a2320 + (2 : Int32)).toNatClampNeg))] (xk_V (in_0 rfl) (sh_0 n2319)) (cl_0 rfl) rfl rfl rfl rfl (mk_ways_ok n2319 (d + 28) (by omega) (by omega) e2382) ?_
        refine xr_aload_n (in_0 rfl) rfl ?_
        refine xr_aload_nx (in_0 rfl) rfl ?_
        refine xr_iload_n (in_0 rfl) rfl ?_
        refine xr_iconst_ _ (in_0 rfl) (show _ = (1 : Int32) by decide) ?_
        refine xr_iadd (in_0 rfl) ?_
        obtain ⟨o2385, h⟩ := xg_e h
        refine xr_ialdx (in_0 rfl) o2385 ?_
        refine xr_aload_nx (in_0 rfl) rfl ?_
        refine xr_iload_n (in_0 rfl) rfl ?_
        refine xr_iconst_ _ (in_0 rfl) (show _ = (2 : Int32) by decide) ?_
        refine xr_iadd (in_0 rfl) ?_
        obtain ⟨o2386, h⟩ := xg_e h
        refine xr_ialdx (in_0 rfl) o2386 ?_
        obtain ⟨v2387, m2388, e2389, h⟩ := xc_m_e h
        refine xq_calla [xv_r 35, xv_i ((xt 0).2 (a2320 + (1 : Int32)).toNatClampNeg), xv_i ((xt 0).2 (a2320 + (2 : Int32)).toNatClampNeg)] [xv_i v2380] [some (xv_r 35), some (xv_i ((xt 0).2 (a2320 + (1 : Int32)).toNatClampNeg)), some (xv_i ((xt 0).2 (a2320 + (2 : Int32)).toNatClampNeg))] (xk_V (in_0 rfl) (sh_35 n2383)) (cl_0 rfl) rfl rfl rfl rfl (mm_ways_ok n2383 (d + 29) e2389) ?_
        by_cases c2391 : v2380 = v2387
        · replace h := (if_pos c2391).symm.trans h
          refine xr_ict 472 (in_0 rfl) rfl c2391 ?_
          refine xr_iinc (a2320 + (8 : Int32)) [some (xv_x 0), some (xv_r 0), some (xv_r 35), some (xv_i (a2320 + (8 : Int32)))] (in_0 rfl) rfl (xi_8 _) (nl_0 rfl) rfl ?_
          refine xr_goto 18 (in_0 rfl) rfl ?_
          exact ih (a2320 + (8 : Int32)) n2383 m2388 _ _ (by omega) (by omega) h
        · replace h := (if_neg c2391).symm.trans h
          refine xr_icf 472 (in_0 rfl) rfl c2391 ?_
          refine xr_iconst_ _ (in_0 rfl) (show _ = (0 : Int32) by decide) ?_
          obtain ⟨rfl, h9⟩ := Prod.mk.inj (Option.some.inj h)
          obtain ⟨rfl, rfl⟩ := Prod.mk.inj h9
          exact xr_zret (kd_0) (in_0 rfl) (by decide) (by omega) (by omega) ⟨rfl, rfl⟩
      replace h := (if_neg c2377).symm.trans h
      by_cases c2392 : (((xt 0).2 a2320.toNatClampNeg) &&& (15 : Int32)) = (5 : Int32)
      · replace h := (if_pos c2392).symm.trans h
        refine xr_swi 327 (in_0 rfl) (by rw [c2392]; decide) (by rw [c2392]; decide) (by rw [c2392]; rfl) rfl ?_
        refine xr_aload_n (in_0 rfl) rfl ?_
        refine xr_aload_nx (in_0 rfl) rfl ?_
        refine xr_iload_n (in_0 rfl) rfl ?_
        refine xr_iconst_ _ (in_0 rfl) (show _ = (1 : Int32) by decide) ?_
        refine xr_iadd (in_0 rfl) ?_
        obtain ⟨o2393, h⟩ := xg_e h
        refine xr_ialdx (in_0 rfl) o2393 ?_
        obtain ⟨v2394, n2397, m2395, e2396, l2398, h⟩ := xc_a_e h
        have l2398c := xk_mono l2398
        refine xq_callan (c1 := n2397 - n2319) (s1 := xk_s n2397 - xk_s n2319) [xv_r 0, xv_i ((xt 0).2 (a2320 + (1 : Int32)).toNatClampNeg)] [] [some (xv_r 0), some (xv_i ((xt 0).2 (a2320 + (1 : Int32)).toNatClampNeg))] (xk_V (in_0 rfl) (sh_0 n2319)) (cl_0 rfl) rfl rfl rfl rfl (mk_states_ok n2319 (d + 27) (by omega) (by omega) e2396) ?_
        refine xr_aload_n (in_0 rfl) rfl ?_
        refine xr_aload_nx (in_0 rfl) rfl ?_
        refine xr_iload_n (in_0 rfl) rfl ?_
        refine xr_iconst_ _ (in_0 rfl) (show _ = (1 : Int32) by decide) ?_
        refine xr_iadd (in_0 rfl) ?_
        obtain ⟨o2399, h⟩ := xg_e h
        refine xr_ialdx (in_0 rfl) o2399 ?_
        obtain ⟨v2400, m2401, e2402, h⟩ := xc_m_e h
        refine xq_calla [xv_r 35, xv_i ((xt 0).2 (a2320 + (1 : Int32)).toNatClampNeg)] [xv_i v2394] [some (xv_r 35), some (xv_i ((xt 0).2 (a2320 + (1 : Int32)).toNatClampNeg))] (xk_V (in_0 rfl) (sh_35 n2397)) (cl_0 rfl) rfl rfl rfl rfl (mm_states_ok n2397 (d + 28) e2402) ?_
        by_cases c2404 : v2394 = v2400
        · replace h := (if_pos c2404).symm.trans h
          refine xr_ict 472 (in_0 rfl) rfl c2404 ?_
          refine xr_iinc (a2320 + (8 : Int32)) [some (xv_x 0), some (xv_r 0), some (xv_r 35), some (xv_i (a2320 + (8 : Int32)))] (in_0 rfl) rfl (xi_8 _) (nl_0 rfl) rfl ?_
          refine xr_goto 18 (in_0 rfl) rfl ?_
          exact ih (a2320 + (8 : Int32)) n2397 m2401 _ _ (by omega) (by omega) h
        · replace h := (if_neg c2404).symm.trans h
          refine xr_icf 472 (in_0 rfl) rfl c2404 ?_
          refine xr_iconst_ _ (in_0 rfl) (show _ = (0 : Int32) by decide) ?_
          obtain ⟨rfl, h9⟩ := Prod.mk.inj (Option.some.inj h)
          obtain ⟨rfl, rfl⟩ := Prod.mk.inj h9
          exact xr_zret (kd_0) (in_0 rfl) (by decide) (by omega) (by omega) ⟨rfl, rfl⟩
      replace h := (if_neg c2392).symm.trans h
      by_cases c2405 : (((xt 0).2 a2320.toNatClampNeg) &&& (15 : Int32)) = (6 : Int32)
      · replace h := (if_pos c2405).symm.trans h
        refine xr_swi 350 (in_0 rfl) (by rw [c2405]; decide) (by rw [c2405]; decide) (by rw [c2405]; rfl) rfl ?_
        refine xr_aload_n (in_0 rfl) rfl ?_
        refine xr_aload_nx (in_0 rfl) rfl ?_
        refine xr_iload_n (in_0 rfl) rfl ?_
        refine xr_iconst_ _ (in_0 rfl) (show _ = (1 : Int32) by decide) ?_
        refine xr_iadd (in_0 rfl) ?_
        obtain ⟨o2406, h⟩ := xg_e h
        refine xr_ialdx (in_0 rfl) o2406 ?_
        refine xr_aload_nx (in_0 rfl) rfl ?_
        refine xr_iload_n (in_0 rfl) rfl ?_
        refine xr_iconst_ _ (in_0 rfl) (show _ = (2 : Int32) by decide) ?_
        refine xr_iadd (in_0 rfl) ?_
        obtain ⟨o2407, h⟩ := xg_e h
        refine xr_ialdx (in_0 rfl) o2407 ?_
        obtain ⟨v2408, n2411, m2409, e2410, l2412, h⟩ := xc_a_e h
        have l2412c := xk_mono l2412
        refine xq_callan (c1 := n2411 - n2319) (s1 := xk_s n2411 - xk_s n2319) [xv_r 0, xv_i ((xt 0).2 (a2320 + (1 : Int32)).toNatClampNeg), xv_i ((xt 0).2 (a2320 + (2 : Int32)).toNatClampNeg)] [] [some (xv_r 0), some (xv_i ((xt 0).2 (a2320 + (1 : Int32)).toNatClampNeg)), some (xv_i ((xt 0).2 (a2320 + (2 : Int32)).toNatClampNeg)), none] (xk_V (in_0 rfl) (sh_0 n2319)) (cl_0 rfl) rfl rfl rfl rfl (mk_solve_ok n2319 d (by omega) (by omega) e2410) ?_
        refine xr_aload_n (in_0 rfl) rfl ?_
        refine xr_aload_nx (in_0 rfl) rfl ?_
        refine xr_iload_n (in_0 rfl) rfl ?_
        refine xr_iconst_ _ (in_0 rfl) (show _ = (1 : Int32) by decide) ?_
        refine xr_iadd (in_0 rfl) ?_
        obtain ⟨o2413, h⟩ := xg_e h
        refine xr_ialdx (in_0 rfl) o2413 ?_
        refine xr_aload_nx (in_0 rfl) rfl ?_
        refine xr_iload_n (in_0 rfl) rfl ?_
        refine xr_iconst_ _ (in_0 rfl) (show _ = (2 : Int32) by decide) ?_
        refine xr_iadd (in_0 rfl) ?_
        obtain ⟨o2414, h⟩ := xg_e h
        refine xr_ialdx (in_0 rfl) o2414 ?_
        obtain ⟨v2415, m2416, e2417, h⟩ := xc_m_e h
        refine xq_calla [xv_r 35, xv_i ((xt 0).2 (a2320 + (1 : Int32)).toNatClampNeg), xv_i ((xt 0).2 (a2320 + (2 : Int32)).toNatClampNeg)] [xv_i v2408] [some (xv_r 35), some (xv_i ((xt 0).2 (a2320 + (1 : Int32)).toNatClampNeg)), some (xv_i ((xt 0).2 (a2320 + (2 : Int32)).toNatClampNeg)), none] (xk_V (in_0 rfl) (sh_35 n2411)) (cl_0 rfl) rfl rfl rfl rfl (mm_solve_ok n2411 (d + 28) e2417) ?_
        by_cases c2419 : v2408 = v2415
        · replace h := (if_pos c2419).symm.trans h
          refine xr_ict 472 (in_0 rfl) rfl c2419 ?_
          refine xr_iinc (a2320 + (8 : Int32)) [some (xv_x 0), some (xv_r 0), some (xv_r 35), some (xv_i (a2320 + (8 : Int32)))] (in_0 rfl) rfl (xi_8 _) (nl_0 rfl) rfl ?_
          refine xr_goto 18 (in_0 rfl) rfl ?_
          exact ih (a2320 + (8 : Int32)) n2411 m2416 _ _ (by omega) (by omega) h
        · replace h := (if_neg c2419).symm.trans h
          refine xr_icf 472 (in_0 rfl) rfl c2419 ?_
          refine xr_iconst_ _ (in_0 rfl) (show _ = (0 : Int32) by decide) ?_
          obtain ⟨rfl, h9⟩ := Prod.mk.inj (Option.some.inj h)
          obtain ⟨rfl, rfl⟩ := Prod.mk.inj h9
          exact xr_zret (kd_0) (in_0 rfl) (by decide) (by omega) (by omega) ⟨rfl, rfl⟩
      replace h := (if_neg c2405).symm.trans h
      by_cases c2420 : (((xt 0).2 a2320.toNatClampNeg) &&& (15 : Int32)) = (7 : Int32)
      · replace h := (if_pos c2420).symm.trans h
        refine xr_swi 383 (in_0 rfl) (by rw [c2420]; decide) (by rw [c2420]; decide) (by rw [c2420]; rfl) rfl ?_
        refine xr_aload_n (in_0 rfl) rfl ?_
        refine xr_aload_nx (in_0 rfl) rfl ?_
        refine xr_iload_n (in_0 rfl) rfl ?_
        refine xr_iconst_ _ (in_0 rfl) (show _ = (1 : Int32) by decide) ?_
        refine xr_iadd (in_0 rfl) ?_
        obtain ⟨o2421, h⟩ := xg_e h
        refine xr_ialdx (in_0 rfl) o2421 ?_
        refine xq_calla [xv_r 0, xv_i ((xt 0).2 (a2320 + (1 : Int32)).toNatClampNeg)] [] [some (xv_r 0), some (xv_i ((xt 0).2 (a2320 + (1 : Int32)).toNatClampNeg))] (xk_V (in_0 rfl) (sh_0 n2319)) (cl_0 rfl) rfl rfl rfl rfl (mk_size_ok n2319 (d + 33) rfl) ?_
        refine xr_aload_n (in_0 rfl) rfl ?_
        refine xr_aload_nx (in_0 rfl) rfl ?_
        refine xr_iload_n (in_0 rfl) rfl ?_
        refine xr_iconst_ _ (in_0 rfl) (show _ = (1 : Int32) by decide) ?_
        refine xr_iadd (in_0 rfl) ?_
        obtain ⟨o2422, h⟩ := xg_e h
        refine xr_ialdx (in_0 rfl) o2422 ?_
        refine xq_calla [xv_r 35, xv_i ((xt 0).2 (a2320 + (1 : Int32)).toNatClampNeg)] [xv_i (mk_size ((xt 0).2 (a2320 + (1 : Int32)).toNatClampNeg) m2318)] [some (xv_r 35), some (xv_i ((xt 0).2 (a2320 + (1 : Int32)).toNatClampNeg))] (xk_V (in_0 rfl) (sh_35 n2319)) (cl_0 rfl) rfl rfl rfl rfl (mm_size_ok n2319 (d + 33) rfl) ?_
        by_cases c2423 : (mk_size ((xt 0).2 (a2320 + (1 : Int32)).toNatClampNeg) m2318) = (mm_size ((xt 0).2 (a2320 + (1 : Int32)).toNatClampNeg) m2318)
        · replace h := (if_pos c2423).symm.trans h
          refine xr_ict 472 (in_0 rfl) rfl c2423 ?_
          refine xr_iinc (a2320 + (8 : Int32)) [some (xv_x 0), some (xv_r 0), some (xv_r 35), some (xv_i (a2320 + (8 : Int32)))] (in_0 rfl) rfl (xi_8 _) (nl_0 rfl) rfl ?_
          refine xr_goto 18 (in_0 rfl) rfl ?_
          exact ih (a2320 + (8 : Int32)) n2319 m2318 _ _ (by omega) (by omega) h
        · replace h := (if_neg c2423).symm.trans h
          refine xr_icf 472 (in_0 rfl) rfl c2423 ?_
          refine xr_iconst_ _ (in_0 rfl) (show _ = (0 : Int32) by decide) ?_
          obtain ⟨rfl, h9⟩ := Prod.mk.inj (Option.some.inj h)
          obtain ⟨rfl, rfl⟩ := Prod.mk.inj h9
          exact xr_zret (kd_0) (in_0 rfl) (by decide) (by omega) (by omega) ⟨rfl, rfl⟩
      replace h := (if_neg c2420).symm.trans h
      by_cases c2424 : (((xt 0).2 a2320.toNatClampNeg) &&& (15 : Int32)) = (8 : Int32)
      · replace h := (if_pos c2424).symm.trans h
        refine xr_swi 406 (in_0 rfl) (by rw [c2424]; decide) (by rw [c2424]; decide) (by rw [c2424]; rfl) rfl ?_
        refine xr_aload_n (in_0 rfl) rfl ?_
        refine xr_aload_nx (in_0 rfl) rfl ?_
        refine xr_iload_n (in_0 rfl) rfl ?_
        refine xr_iconst_ _ (in_0 rfl) (show _ = (1 : Int32) by decide) ?_
        refine xr_iadd (in_0 rfl) ?_
        obtain ⟨o2425, h⟩ := xg_e h
        refine xr_ialdx (in_0 rfl) o2425 ?_
        refine xr_aload_nx (in_0 rfl) rfl ?_
        refine xr_iload_n (in_0 rfl) rfl ?_
        refine xr_iconst_ _ (in_0 rfl) (show _ = (2 : Int32) by decide) ?_
        refine xr_iadd (in_0 rfl) ?_
        obtain ⟨o2426, h⟩ := xg_e h
        refine xr_ialdx (in_0 rfl) o2426 ?_
        obtain ⟨v2427, m2428, e2429, h⟩ := xc_m_e h
        refine xq_calla [xv_r 0, xv_i ((xt 0).2 (a2320 + (1 : Int32)).toNatClampNeg), xv_i ((xt 0).2 (a2320 + (2 : Int32)).toNatClampNeg)] [] [some (xv_r 0), some (xv_i ((xt 0).2 (a2320 + (1 : Int32)).toNatClampNeg)), some (xv_i ((xt 0).2 (a2320 + (2 : Int32)).toNatClampNeg))] (xk_V (in_0 rfl) (sh_0 n2319)) (cl_0 rfl) rfl rfl rfl rfl (mk_gives_ok n2319 (d + 32) e2429) ?_
        refine xr_aload_n (in_0 rfl) rfl ?_
        refine xr_aload_nx (in_0 rfl) rfl ?_
        refine xr_iload_n (in_0 rfl) rfl ?_
        refine xr_iconst_ _ (in_0 rfl) (show _ = (1 : Int32) by decide) ?_
        refine xr_iadd (in_0 rfl) ?_
        obtain ⟨o2431, h⟩ := xg_e h
        refine xr_ialdx (in_0 rfl) o2431 ?_
        refine xr_aload_nx (in_0 rfl) rfl ?_
        refine xr_iload_n (in_0 rfl) rfl ?_
        refine xr_iconst_ _ (in_0 rfl) (show _ = (2 : Int32) by decide) ?_
        refine xr_iadd (in_0 rfl) ?_
        obtain ⟨o2432, h⟩ := xg_e h
        refine xr_ialdx (in_0 rfl) o2432 ?_
        obtain ⟨v2433, m2434, e2435, h⟩ := xc_m_e h
        refine xq_calla [xv_r 35, xv_i ((xt 0).2 (a2320 + (1 : Int32)).toNatClampNeg), xv_i ((xt 0).2 (a2320 + (2 : Int32)).toNatClampNeg)] [xv_i v2427] [some (xv_r 35), some (xv_i ((xt 0).2 (a2320 + (1 : Int32)).toNatClampNeg)), some (xv_i ((xt 0).2 (a2320 + (2 : Int32)).toNatClampNeg)), none] (xk_V (in_0 rfl) (sh_35 n2319)) (cl_0 rfl) rfl rfl rfl rfl (mm_gives_ok n2319 (d + 32) e2435) ?_
        by_cases c2437 : v2427 = v2433
        · replace h := (if_pos c2437).symm.trans h
          refine xr_ict 472 (in_0 rfl) rfl c2437 ?_
          refine xr_iinc (a2320 + (8 : Int32)) [some (xv_x 0), some (xv_r 0), some (xv_r 35), some (xv_i (a2320 + (8 : Int32)))] (in_0 rfl) rfl (xi_8 _) (nl_0 rfl) rfl ?_
          refine xr_goto 18 (in_0 rfl) rfl ?_
          exact ih (a2320 + (8 : Int32)) n2319 m2434 _ _ (by omega) (by omega) h
        · replace h := (if_neg c2437).symm.trans h
          refine xr_icf 472 (in_0 rfl) rfl c2437 ?_
          refine xr_iconst_ _ (in_0 rfl) (show _ = (0 : Int32) by decide) ?_
          obtain ⟨rfl, h9⟩ := Prod.mk.inj (Option.some.inj h)
          obtain ⟨rfl, rfl⟩ := Prod.mk.inj h9
          exact xr_zret (kd_0) (in_0 rfl) (by decide) (by omega) (by omega) ⟨rfl, rfl⟩
      replace h := (if_neg c2424).symm.trans h
      by_cases c2438 : (((xt 0).2 a2320.toNatClampNeg) &&& (15 : Int32)) = (9 : Int32)
      · replace h := (if_pos c2438).symm.trans h
        refine xr_swi 439 (in_0 rfl) (by rw [c2438]; decide) (by rw [c2438]; decide) (by rw [c2438]; rfl) rfl ?_
        refine xr_aload_n (in_0 rfl) rfl ?_
        refine xr_aload_nx (in_0 rfl) rfl ?_
        refine xr_iload_n (in_0 rfl) rfl ?_
        refine xr_iconst_ _ (in_0 rfl) (show _ = (1 : Int32) by decide) ?_
        refine xr_iadd (in_0 rfl) ?_
        obtain ⟨o2439, h⟩ := xg_e h
        refine xr_ialdx (in_0 rfl) o2439 ?_
        refine xr_aload_nx (in_0 rfl) rfl ?_
        refine xr_iload_n (in_0 rfl) rfl ?_
        refine xr_iconst_ _ (in_0 rfl) (show _ = (2 : Int32) by decide) ?_
        refine xr_iadd (in_0 rfl) ?_
        obtain ⟨o2440, h⟩ := xg_e h
        refine xr_ialdx (in_0 rfl) o2440 ?_
        obtain ⟨v2441, m2442, e2443, h⟩ := xc_m_e h
        refine xq_calla [xv_r 0, xv_i ((xt 0).2 (a2320 + (1 : Int32)).toNatClampNeg), xv_i ((xt 0).2 (a2320 + (2 : Int32)).toNatClampNeg)] [] [some (xv_r 0), some (xv_i ((xt 0).2 (a2320 + (1 : Int32)).toNatClampNeg)), some (xv_i ((xt 0).2 (a2320 + (2 : Int32)).toNatClampNeg))] (xk_V (in_0 rfl) (sh_0 n2319)) (cl_0 rfl) rfl rfl rfl rfl (mk_next_ok n2319 (d + 32) e2443) ?_
        refine xr_aload_n (in_0 rfl) rfl ?_
        refine xr_aload_nx (in_0 rfl) rfl ?_
        refine xr_iload_n (in_0 rfl) rfl ?_
        refine xr_iconst_ _ (in_0 rfl) (show _ = (1 : Int32) by decide) ?_
        refine xr_iadd (in_0 rfl) ?_
        obtain ⟨o2445, h⟩ := xg_e h
        refine xr_ialdx (in_0 rfl) o2445 ?_
        refine xr_aload_nx (in_0 rfl) rfl ?_
        refine xr_iload_n (in_0 rfl) rfl ?_
        refine xr_iconst_ _ (in_0 rfl) (show _ = (2 : Int32) by decide) ?_
        refine xr_iadd (in_0 rfl) ?_
        obtain ⟨o2446, h⟩ := xg_e h
        refine xr_ialdx (in_0 rfl) o2446 ?_
        obtain ⟨v2447, m2448, e2449, h⟩ := xc_m_e h
        refine xq_calla [xv_r 35, xv_i ((xt 0).2 (a2320 + (1 : Int32)).toNatClampNeg), xv_i ((xt 0).2 (a2320 + (2 : Int32)).toNatClampNeg)] [xv_i v2441] [some (xv_r 35), some (xv_i ((xt 0).2 (a2320 + (1 : Int32)).toNatClampNeg)), some (xv_i ((xt 0).2 (a2320 + (2 : Int32)).toNatClampNeg))] (xk_V (in_0 rfl) (sh_35 n2319)) (cl_0 rfl) rfl rfl rfl rfl (mm_next_ok n2319 (d + 32) e2449) ?_
        by_cases c2451 : v2441 = v2447
        · replace h := (if_pos c2451).symm.trans h
          refine xr_ict 472 (in_0 rfl) rfl c2451 ?_
          refine xr_iinc (a2320 + (8 : Int32)) [some (xv_x 0), some (xv_r 0), some (xv_r 35), some (xv_i (a2320 + (8 : Int32)))] (in_0 rfl) rfl (xi_8 _) (nl_0 rfl) rfl ?_
          refine xr_goto 18 (in_0 rfl) rfl ?_
          exact ih (a2320 + (8 : Int32)) n2319 m2448 _ _ (by omega) (by omega) h
        · replace h := (if_neg c2451).symm.trans h
          refine xr_icf 472 (in_0 rfl) rfl c2451 ?_
          refine xr_iconst_ _ (in_0 rfl) (show _ = (0 : Int32) by decide) ?_
          obtain ⟨rfl, h9⟩ := Prod.mk.inj (Option.some.inj h)
          obtain ⟨rfl, rfl⟩ := Prod.mk.inj h9
          exact xr_zret (kd_0) (in_0 rfl) (by decide) (by omega) (by omega) ⟨rfl, rfl⟩
      replace h := (if_neg c2438).symm.trans h
      have c2323z : (((xt 0).2 a2320.toNatClampNeg) &&& (15 : Int32)).toInt ≠ 0 := fun q => c2323 (Int32.toInt_inj.mp (q.trans (by decide)))
      have c2339z : (((xt 0).2 a2320.toNatClampNeg) &&& (15 : Int32)).toInt ≠ 1 := fun q => c2339 (Int32.toInt_inj.mp (q.trans (by decide)))
      have c2351z : (((xt 0).2 a2320.toNatClampNeg) &&& (15 : Int32)).toInt ≠ 2 := fun q => c2351 (Int32.toInt_inj.mp (q.trans (by decide)))
      have c2353z : (((xt 0).2 a2320.toNatClampNeg) &&& (15 : Int32)).toInt ≠ 3 := fun q => c2353 (Int32.toInt_inj.mp (q.trans (by decide)))
      have c2377z : (((xt 0).2 a2320.toNatClampNeg) &&& (15 : Int32)).toInt ≠ 4 := fun q => c2377 (Int32.toInt_inj.mp (q.trans (by decide)))
      have c2392z : (((xt 0).2 a2320.toNatClampNeg) &&& (15 : Int32)).toInt ≠ 5 := fun q => c2392 (Int32.toInt_inj.mp (q.trans (by decide)))
      have c2405z : (((xt 0).2 a2320.toNatClampNeg) &&& (15 : Int32)).toInt ≠ 6 := fun q => c2405 (Int32.toInt_inj.mp (q.trans (by decide)))
      have c2420z : (((xt 0).2 a2320.toNatClampNeg) &&& (15 : Int32)).toInt ≠ 7 := fun q => c2420 (Int32.toInt_inj.mp (q.trans (by decide)))
      have c2424z : (((xt 0).2 a2320.toNatClampNeg) &&& (15 : Int32)).toInt ≠ 8 := fun q => c2424 (Int32.toInt_inj.mp (q.trans (by decide)))
      have c2438z : (((xt 0).2 a2320.toNatClampNeg) &&& (15 : Int32)).toInt ≠ 9 := fun q => c2438 (Int32.toInt_inj.mp (q.trans (by decide)))
      refine xr_swo 472 (in_0 rfl) (by omega) rfl ?_
      refine xr_iinc (a2320 + (8 : Int32)) [some (xv_x 0), some (xv_r 0), some (xv_r 35), some (xv_i (a2320 + (8 : Int32)))] (in_0 rfl) rfl (xi_8 _) (nl_0 rfl) rfl ?_
      refine xr_goto 18 (in_0 rfl) rfl ?_
      exact ih (a2320 + (8 : Int32)) n2319 m2318 _ _ (by omega) (by omega) h
def la_law (F : Nat) (xt : Nat → Nat × (Nat → Int32)) (n : Nat) (m : xm_S) : Option (Int32 × Nat × xm_S) := la_law_l18 F xt (fun (n2453 : Nat) (m2452 : xm_S) => some ((1 : Int32), n2453, m2452)) F (0 : Int32) n m
theorem la_law_ok {xt : Nat → Nat × (Nat → Int32)} (n d : Nat) {F : Nat} {m m' : xm_S} {n' C0 S0 nc ns : Nat} {r : Int32} (hnc : nc + n' ≤ C0 + n) (hns : ns + xk_s n' ≤ S0 + xk_s n) (h : la_law F xt n m = some (r, n', m')) : xm_Run pg xt (d + 34) 0 C0 S0 (xQ_i (sh n') r m') 16 [some (xv_x 0), some (xv_r 0), some (xv_r 35), none] [] (xq_2 (sh n) m) nc ns := by
  unfold la_law at h
  refine xr_iconst_ _ (in_0 rfl) (show _ = (0 : Int32) by decide) ?_
  refine xr_istore_n [some (xv_x 0), some (xv_r 0), some (xv_r 35), some (xv_i (0 : Int32))] (in_0 rfl) (nl_0 rfl) rfl ?_
  refine la_law_l18_ok d (fun n2453 m2452 nc ns hnc hns h => ?_) F (0 : Int32) n m _ _ (by omega) (by omega) h
  refine xr_iconst_ _ (in_0 rfl) (show _ = (1 : Int32) by decide) ?_
  obtain ⟨rfl, h9⟩ := Prod.mk.inj (Option.some.inj h)
  obtain ⟨rfl, rfl⟩ := Prod.mk.inj h9
  exact xr_zret (kd_0) (in_0 rfl) (by decide) (by omega) (by omega) ⟨rfl, rfl⟩
