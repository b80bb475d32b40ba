/-! Methods as functions, and that they run so (written by program). -/
def mm_has_l125 (F : Nat) (a1381 : Int32) (a1382 : Int64) (a1383 : Int32) (a1384 : Int64) (a1385 : Int32) (a1386 : Int32) (a1387 : Int32) (a1388 : Int32) (a1389 : Int32) (k : Int32 → xm_S → Option (Int32 × xm_S)) : Nat → Int32 → Int32 → xm_S → Option (Int32 × xm_S)
  | 0, _, _, _ => none
  | fu + 1, a1390, a1391, m1380 => if a1385 ≤ a1391 then k a1390 m1380 else xg_n a1387 28 (xj_j (fun (u1398 : Unit) => xg_n a1387 28 (xg_n a1387 28 (if (m1380.1 36 a1387.toNatClampNeg) = (2 : Int32) then mm_has_l125 F a1381 a1382 a1383 a1384 a1385 a1386 a1387 a1388 a1389 k fu (a1390 ||| ((((mm_letterAt a1382 a1383 a1384 a1391) >>> ((m1380.1 37 a1387.toNatClampNeg) &&& 31)) &&& (1 : Int32)) <<< (a1391 &&& 31))) (a1391 + (1 : Int32)) m1380 else mm_has_l125 F a1381 a1382 a1383 a1384 a1385 a1386 a1387 a1388 a1389 k fu (a1390 ||| (((1 : Int32) - (((mm_letterAt a1382 a1383 a1384 a1391) >>> ((m1380.1 37 a1387.toNatClampNeg) &&& 31)) &&& (1 : Int32))) <<< (a1391 &&& 31))) (a1391 + (1 : Int32)) m1380))) fun j1399 => if (m1380.1 36 a1387.toNatClampNeg) = (2 : Int32) then j1399 () else xg_n a1387 28 (if (m1380.1 36 a1387.toNatClampNeg) = (3 : Int32) then j1399 () else k a1390 m1380))
theorem mm_has_l125_ok {xt : Nat → Nat × (Nat → Int32)} (n d : Nat) {F : Nat} {a1381 : Int32} {a1382 : Int64} {a1383 : Int32} {a1384 : Int64} {a1385 : Int32} {a1386 : Int32} {a1387 : Int32} {a1388 : Int32} {a1389 : Int32} {k : Int32 → xm_S → Option (Int32 × xm_S)} {r : Int32} {m' : xm_S} 
    (hk : ∀ (z13 : Int32) (m : xm_S), k z13 m = some (r, m') → xm_Run pg xt (d + 2) 87 0 0 (xQ_i (sh n) r m') 211 [some (xv_r 35), some (xv_i a1381), some (xv_l a1382), none, some (xv_i a1383), some (xv_l a1384), none, none, some (xv_i a1385), some (xv_i a1386), some (xv_i a1387), some (xv_i a1388), some (xv_i a1389), some (xv_i z13), none, none] [] (xq_2 (sh n) m) 0 0) :
    ∀ (fu : Nat) (a1390 : Int32) (a1391 : Int32) (m1380 : xm_S), mm_has_l125 F a1381 a1382 a1383 a1384 a1385 a1386 a1387 a1388 a1389 k fu a1390 a1391 m1380 = some (r, m') → xm_Run pg xt (d + 2) 87 0 0 (xQ_i (sh n) r m') 125 [some (xv_r 35), some (xv_i a1381), some (xv_l a1382), none, some (xv_i a1383), some (xv_l a1384), none, none, some (xv_i a1385), some (xv_i a1386), some (xv_i a1387), some (xv_i a1388), some (xv_i a1389), some (xv_i a1390), some (xv_i a1391), none] [] (xq_2 (sh n) m1380) 0 0 := by
  intro fu
  induction fu with
  | zero => intro a1390 a1391 m1380 h; cases h
  | succ fu ih =>
    intro a1390 a1391 m1380 h
    rw [mm_has_l125] at h
    refine xr_iload (in_87 rfl) rfl ?_
    refine xr_iload (in_87 rfl) rfl ?_
    by_cases c1392 : a1385 ≤ a1391
    · replace h := (if_pos c1392).symm.trans h
      refine xr_ict 211 (in_87 rfl) rfl c1392 ?_
      refine xr_forget (loc' := [some (xv_r 35), some (xv_i a1381), some (xv_l a1382), none, some (xv_i a1383), some (xv_l a1384), none, none, some (xv_i a1385), some (xv_i a1386), some (xv_i a1387), some (xv_i a1388), some (xv_i a1389), some (xv_i a1390), none, none]) (xl_s (xl_s (xl_s (xl_o (xl_s (xl_s (xl_o (xl_o (xl_s (xl_s (xl_s (xl_s (xl_s (xl_s (xl_o (xl_o xl_n)))))))))))))))) ?_
      exact hk a1390 m1380 h
    · replace h := (if_neg c1392).symm.trans h
      refine xr_icf 211 (in_87 rfl) rfl c1392 ?_
      refine xr_aload_n (in_87 rfl) rfl ?_
      refine xq_getr (in_87 rfl) (fo_87 rfl) (sh_35 n) rfl ?_
      refine xr_iload (in_87 rfl) rfl ?_
      obtain ⟨o1393, h⟩ := xg_e h
      refine xq_iald (in_87 rfl) (sh_36 n) o1393 ?_
      refine xr_iconst_ _ (in_87 rfl) (show _ = (2 : Int32) by decide) ?_
      obtain ⟨j1399, e1400, h⟩ := xj_e h
      have q1401 : ∀ (u1398 : Unit), j1399 u1398 = some (r, m') → xm_Run pg xt (d + 2) 87 0 0 (xQ_i (sh n) r m') 154 [some (xv_r 35), some (xv_i a1381), some (xv_l a1382), none, some (xv_i a1383), some (xv_l a1384), none, none, some (xv_i a1385), some (xv_i a1386), some (xv_i a1387), some (xv_i a1388), some (xv_i a1389), some (xv_i a1390), some (xv_i a1391), none] [] (xq_2 (sh n) m1380) 0 0 := by
        intro u1398 h
        rw [e1400] at h
        refine xr_aload_n (in_87 rfl) rfl ?_
        refine xr_lload_n (in_87 rfl) rfl ?_
        refine xr_iload (in_87 rfl) rfl ?_
        refine xr_lload (in_87 rfl) rfl ?_
        refine xr_iload (in_87 rfl) rfl ?_
        refine xq_calla [xv_r 35, xv_l a1382, xv_i a1383, xv_l a1384, xv_i a1391] [] [some (xv_r 35), some (xv_l a1382), none, some (xv_i a1383), some (xv_l a1384), none, some (xv_i a1391)] (xk_V (in_87 rfl) (sh_35 n)) (cl_87 rfl) rfl rfl rfl rfl (mm_letterAt_ok n (d + 1) rfl) ?_
        refine xr_aload_n (in_87 rfl) rfl ?_
        refine xq_getr (in_87 rfl) (fo_87 rfl) (sh_35 n) rfl ?_
        refine xr_iload (in_87 rfl) rfl ?_
        obtain ⟨o1403, h⟩ := xg_e h
        refine xq_iald (in_87 rfl) (sh_37 n) o1403 ?_
        refine xr_ishr (in_87 rfl) ?_
        refine xr_iconst_ _ (in_87 rfl) (show _ = (1 : Int32) by decide) ?_
        refine xr_iand (in_87 rfl) ?_
        refine xr_istore [some (xv_r 35), some (xv_i a1381), some (xv_l a1382), none, some (xv_i a1383), some (xv_l a1384), none, none, some (xv_i a1385), some (xv_i a1386), some (xv_i a1387), some (xv_i a1388), some (xv_i a1389), some (xv_i a1390), some (xv_i a1391), some (xv_i (((mm_letterAt a1382 a1383 a1384 a1391) >>> ((m1380.1 37 a1387.toNatClampNeg) &&& 31)) &&& (1 : Int32)))] (in_87 rfl) (nl_87 rfl) rfl ?_
        refine xr_iload (in_87 rfl) rfl ?_
        refine xr_aload_n (in_87 rfl) rfl ?_
        refine xq_getr (in_87 rfl) (fo_87 rfl) (sh_35 n) rfl ?_
        refine xr_iload (in_87 rfl) rfl ?_
        obtain ⟨o1404, h⟩ := xg_e h
        refine xq_iald (in_87 rfl) (sh_36 n) o1404 ?_
        refine xr_iconst_ _ (in_87 rfl) (show _ = (2 : Int32) by decide) ?_
        by_cases c1405 : (m1380.1 36 a1387.toNatClampNeg) = (2 : Int32)
        · replace h := (if_pos c1405).symm.trans h
          refine xr_icf 195 (in_87 rfl) rfl (fun q => q c1405) ?_
          refine xr_iload (in_87 rfl) rfl ?_
          refine xr_goto 199 (in_87 rfl) rfl ?_
          refine xr_iload (in_87 rfl) rfl ?_
          refine xr_ishl (in_87 rfl) ?_
          refine xr_ior (in_87 rfl) ?_
          refine xr_istore [some (xv_r 35), some (xv_i a1381), some (xv_l a1382), none, some (xv_i a1383), some (xv_l a1384), none, none, some (xv_i a1385), some (xv_i a1386), some (xv_i a1387), some (xv_i a1388), some (xv_i a1389), some (xv_i (a1390 ||| ((((mm_letterAt a1382 a1383 a1384 a1391) >>> ((m1380.1 37 a1387.toNatClampNeg) &&& 31)) &&& (1 : Int32)) <<< (a1391 &&& 31)))), some (xv_i a1391), some (xv_i (((mm_letterAt a1382 a1383 a1384 a1391) >>> ((m1380.1 37 a1387.toNatClampNeg) &&& 31)) &&& (1 : Int32)))] (in_87 rfl) (nl_87 rfl) rfl ?_
          refine xr_iinc (a1391 + (1 : Int32)) [some (xv_r 35), some (xv_i a1381), some (xv_l a1382), none, some (xv_i a1383), some (xv_l a1384), none, none, some (xv_i a1385), some (xv_i a1386), some (xv_i a1387), some (xv_i a1388), some (xv_i a1389), some (xv_i (a1390 ||| ((((mm_letterAt a1382 a1383 a1384 a1391) >>> ((m1380.1 37 a1387.toNatClampNeg) &&& 31)) &&& (1 : Int32)) <<< (a1391 &&& 31)))), some (xv_i (a1391 + (1 : Int32))), some (xv_i (((mm_letterAt a1382 a1383 a1384 a1391) >>> ((m1380.1 37 a1387.toNatClampNeg) &&& 31)) &&& (1 : Int32)))] (in_87 rfl) rfl (xi_1 _) (nl_87 rfl) rfl ?_
          refine xr_goto 125 (in_87 rfl) rfl ?_
          refine xr_forget (loc' := [some (xv_r 35), some (xv_i a1381), some (xv_l a1382), none, some (xv_i a1383), some (xv_l a1384), none, none, some (xv_i a1385), some (xv_i a1386), some (xv_i a1387), some (xv_i a1388), some (xv_i a1389), some (xv_i (a1390 ||| ((((mm_letterAt a1382 a1383 a1384 a1391) >>> ((m1380.1 37 a1387.toNatClampNeg) &&& 31)) &&& (1 : Int32)) <<< (a1391 &&& 31)))), some (xv_i (a1391 + (1 : Int32))), none]) (xl_s (xl_s (xl_s (xl_o (xl_s (xl_s (xl_o (xl_o (xl_s (xl_s (xl_s (xl_s (xl_s (xl_s (xl_s (xl_o xl_n)))))))))))))))) ?_
          exact ih (a1390 ||| ((((mm_letterAt a1382 a1383 a1384 a1391) >>> ((m1380.1 37 a1387.toNatClampNeg) &&& 31)) &&& (1 : Int32)) <<< (a1391 &&& 31))) (a1391 + (1 : Int32)) m1380 h
        · replace h := (if_neg c1405).symm.trans h
          refine xr_ict 195 (in_87 rfl) rfl c1405 ?_
          refine xr_iconst_ _ (in_87 rfl) (show _ = (1 : Int32) by decide) ?_
          refine xr_iload (in_87 rfl) rfl ?_
          refine xr_isub (in_87 rfl) ?_
          refine xr_iload (in_87 rfl) rfl ?_
          refine xr_ishl (in_87 rfl) ?_
          refine xr_ior (in_87 rfl) ?_
          refine xr_istore [some (xv_r 35), some (xv_i a1381), some (xv_l a1382), none, some (xv_i a1383), some (xv_l a1384), none, none, some (xv_i a1385), some (xv_i a1386), some (xv_i a1387), some (xv_i a1388), some (xv_i a1389), some (xv_i (a1390 ||| (((1 : Int32) - (((mm_letterAt a1382 a1383 a1384 a1391) >>> ((m1380.1 37 a1387.toNatClampNeg) &&& 31)) &&& (1 : Int32))) <<< (a1391 &&& 31)))), some (xv_i a1391), some (xv_i (((mm_letterAt a1382 a1383 a1384 a1391) >>> ((m1380.1 37 a1387.toNatClampNeg) &&& 31)) &&& (1 : Int32)))] (in_87 rfl) (nl_87 rfl) rfl ?_
          refine xr_iinc (a1391 + (1 : Int32)) [some (xv_r 35), some (xv_i a1381), some (xv_l a1382), none, some (xv_i a1383), some (xv_l a1384), none, none, some (xv_i a1385), some (xv_i a1386), some (xv_i a1387), some (xv_i a1388), some (xv_i a1389), some (xv_i (a1390 ||| (((1 : Int32) - (((mm_letterAt a1382 a1383 a1384 a1391) >>> ((m1380.1 37 a1387.toNatClampNeg) &&& 31)) &&& (1 : Int32))) <<< (a1391 &&& 31)))), some (xv_i (a1391 + (1 : Int32))), some (xv_i (((mm_letterAt a1382 a1383 a1384 a1391) >>> ((m1380.1 37 a1387.toNatClampNeg) &&& 31)) &&& (1 : Int32)))] (in_87 rfl) rfl (xi_1 _) (nl_87 rfl) rfl ?_
          refine xr_goto 125 (in_87 rfl) rfl ?_
          refine xr_forget (loc' := [some (xv_r 35), some (xv_i a1381), some (xv_l a1382), none, some (xv_i a1383), some (xv_l a1384), none, none, some (xv_i a1385), some (xv_i a1386), some (xv_i a1387), some (xv_i a1388), some (xv_i a1389), some (xv_i (a1390 ||| (((1 : Int32) - (((mm_letterAt a1382 a1383 a1384 a1391) >>> ((m1380.1 37 a1387.toNatClampNeg) &&& 31)) &&& (1 : Int32))) <<< (a1391 &&& 31)))), some (xv_i (a1391 + (1 : Int32))), none]) (xl_s (xl_s (xl_s (xl_o (xl_s (xl_s (xl_o (xl_o (xl_s (xl_s (xl_s (xl_s (xl_s (xl_s (xl_s (xl_o xl_n)))))))))))))))) ?_
          exact ih (a1390 ||| (((1 : Int32) - (((mm_letterAt a1382 a1383 a1384 a1391) >>> ((m1380.1 37 a1387.toNatClampNeg) &&& 31)) &&& (1 : Int32))) <<< (a1391 &&& 31))) (a1391 + (1 : Int32)) m1380 h
      clear e1400
      by_cases c1406 : (m1380.1 36 a1387.toNatClampNeg) = (2 : Int32)
      · replace h := (if_pos c1406).symm.trans h
        refine xr_ict 154 (in_87 rfl) rfl c1406 ?_
        exact q1401 () h
      · replace h := (if_neg c1406).symm.trans h
        refine xr_icf 154 (in_87 rfl) rfl c1406 ?_
        refine xr_aload_n (in_87 rfl) rfl ?_
        refine xq_getr (in_87 rfl) (fo_87 rfl) (sh_35 n) rfl ?_
        refine xr_iload (in_87 rfl) rfl ?_
        obtain ⟨o1407, h⟩ := xg_e h
        refine xq_iald (in_87 rfl) (sh_36 n) o1407 ?_
        refine xr_iconst_ _ (in_87 rfl) (show _ = (3 : Int32) by decide) ?_
        by_cases c1408 : (m1380.1 36 a1387.toNatClampNeg) = (3 : Int32)
        · replace h := (if_pos c1408).symm.trans h
          refine xr_icf 211 (in_87 rfl) rfl (fun q => q c1408) ?_
          exact q1401 () h
        · replace h := (if_neg c1408).symm.trans h
          refine xr_ict 211 (in_87 rfl) rfl c1408 ?_
          refine xr_forget (loc' := [some (xv_r 35), some (xv_i a1381), some (xv_l a1382), none, some (xv_i a1383), some (xv_l a1384), none, none, some (xv_i a1385), some (xv_i a1386), some (xv_i a1387), some (xv_i a1388), some (xv_i a1389), some (xv_i a1390), none, none]) (xl_s (xl_s (xl_s (xl_o (xl_s (xl_s (xl_o (xl_o (xl_s (xl_s (xl_s (xl_s (xl_s (xl_s (xl_o (xl_o xl_n)))))))))))))))) ?_
          exact hk a1390 m1380 h
def mm_has_l53 (F : Nat) (a1354 : Int32) (a1355 : Int64) (a1356 : Int32) (a1357 : Int64) (a1358 : Int32) (a1359 : Int32) (k : xm_S → Option (Int32 × xm_S)) : Nat → Int32 → xm_S → Option (Int32 × xm_S)
  | 0, _, _ => none
  | fu + 1, a1360, m1353 => if a1354 < a1360 then k m1353 else xg_n a1360 28 (xj_j (fun (x1367 : Int32) => xg_n a1360 28 (xj_j (fun (x1376 : Int32) => mm_has_l125 F a1354 a1355 a1356 a1357 a1358 a1359 a1360 x1367 x1376 (fun (x1409 : Int32) (m1410 : xm_S) => xg_n a1360 28 (if (m1410.1 36 a1360.toNatClampNeg) = (0 : Int32) then xg_n a1360 28 (xs_m (xw_i m1410 57 a1360.toNatClampNeg a1359) fun m1414 => mm_has_l53 F a1354 a1355 a1356 a1357 a1358 a1359 k fu (a1360 + (1 : Int32)) m1414) else if (m1410.1 36 a1360.toNatClampNeg) = (1 : Int32) then xg_n a1360 28 (xs_m (xw_i m1410 57 a1360.toNatClampNeg (0 : Int32)) fun m1418 => mm_has_l53 F a1354 a1355 a1356 a1357 a1358 a1359 k fu (a1360 + (1 : Int32)) m1418) else if (m1410.1 36 a1360.toNatClampNeg) = (4 : Int32) then xg_n a1360 28 (xs_m (xw_i m1410 57 a1360.toNatClampNeg (x1367 &&& x1376)) fun m1422 => mm_has_l53 F a1354 a1355 a1356 a1357 a1358 a1359 k fu (a1360 + (1 : Int32)) m1422) else if (m1410.1 36 a1360.toNatClampNeg) = (5 : Int32) then xg_n a1360 28 (xs_m (xw_i m1410 57 a1360.toNatClampNeg (x1367 ||| x1376)) fun m1426 => mm_has_l53 F a1354 a1355 a1356 a1357 a1358 a1359 k fu (a1360 + (1 : Int32)) m1426) else if (m1410.1 36 a1360.toNatClampNeg) = (6 : Int32) then xg_n a1360 28 (xs_m (xw_i m1410 57 a1360.toNatClampNeg (mm_ahead x1367 a1356 a1358)) fun m1430 => mm_has_l53 F a1354 a1355 a1356 a1357 a1358 a1359 k fu (a1360 + (1 : Int32)) m1430) else if (m1410.1 36 a1360.toNatClampNeg) = (7 : Int32) then xc_m (mm_fixed F x1367 x1376 (1 : Int32) a1356 a1358 m1410) fun v1447 m1448 => xg_n a1360 28 (xs_m (xw_i m1448 57 a1360.toNatClampNeg v1447) fun m1452 => mm_has_l53 F a1354 a1355 a1356 a1357 a1358 a1359 k fu (a1360 + (1 : Int32)) m1452) else if (m1410.1 36 a1360.toNatClampNeg) = (8 : Int32) then xc_m (mm_fixed F x1367 x1376 (0 : Int32) a1356 a1358 m1410) fun v1455 m1456 => xg_n a1360 28 (xs_m (xw_i m1456 57 a1360.toNatClampNeg v1455) fun m1460 => mm_has_l53 F a1354 a1355 a1356 a1357 a1358 a1359 k fu (a1360 + (1 : Int32)) m1460) else xg_n a1360 28 (xs_m (xw_i m1410 57 a1360.toNatClampNeg x1409) fun m1463 => mm_has_l53 F a1354 a1355 a1356 a1357 a1358 a1359 k fu (a1360 + (1 : Int32)) m1463))) F (0 : Int32) (0 : Int32) m1353) fun j1377 => if (mm_hasTwo (m1353.1 36 a1360.toNatClampNeg)) = 0 then j1377 (0 : Int32) else xg_n a1360 28 (xg_n (m1353.1 38 a1360.toNatClampNeg) 28 (j1377 (m1353.1 57 (m1353.1 38 a1360.toNatClampNeg).toNatClampNeg))))) fun j1368 => if (m1353.1 36 a1360.toNatClampNeg) ≤ (3 : Int32) then j1368 (0 : Int32) else xg_n a1360 28 (xg_n (m1353.1 37 a1360.toNatClampNeg) 28 (j1368 (m1353.1 57 (m1353.1 37 a1360.toNatClampNeg).toNatClampNeg))))
theorem mm_has_l53_ok {xt : Nat → Nat × (Nat → Int32)} (n d : Nat) {F : Nat} {a1354 : Int32} {a1355 : Int64} {a1356 : Int32} {a1357 : Int64} {a1358 : Int32} {a1359 : Int32} {k : xm_S → Option (Int32 × xm_S)} {r : Int32} {m' : xm_S} 
    (hk : ∀ (m : xm_S), k m = some (r, m') → xm_Run pg xt (d + 2) 87 0 0 (xQ_i (sh n) r m') 401 [some (xv_r 35), some (xv_i a1354), none, none, none, none, none, none, none, none, none, none, none, none, none, none] [] (xq_2 (sh n) m) 0 0) :
    ∀ (fu : Nat) (a1360 : Int32) (m1353 : xm_S), mm_has_l53 F a1354 a1355 a1356 a1357 a1358 a1359 k fu a1360 m1353 = some (r, m') → xm_Run pg xt (d + 2) 87 0 0 (xQ_i (sh n) r m') 53 [some (xv_r 35), some (xv_i a1354), some (xv_l a1355), none, some (xv_i a1356), some (xv_l a1357), none, none, some (xv_i a1358), some (xv_i a1359), some (xv_i a1360), none, none, none, none, none] [] (xq_2 (sh n) m1353) 0 0 := by
  intro fu
  induction fu with
  | zero => intro a1360 m1353 h; cases h
  | succ fu ih =>
    intro a1360 m1353 h
    rw [mm_has_l53] at h
    refine xr_iload (in_87 rfl) rfl ?_
    refine xr_iload_n (in_87 rfl) rfl ?_
    by_cases c1361 : a1354 < a1360
    · replace h := (if_pos c1361).symm.trans h
      refine xr_ict 401 (in_87 rfl) rfl c1361 ?_
      refine xr_forget (loc' := [some (xv_r 35), some (xv_i a1354), none, none, none, none, none, none, none, none, none, none, none, none, none, none]) (xl_s (xl_s (xl_o (xl_o (xl_o (xl_o (xl_o (xl_o (xl_o (xl_o (xl_o (xl_o (xl_o (xl_o (xl_o (xl_o xl_n)))))))))))))))) ?_
      exact hk m1353 h
    · replace h := (if_neg c1361).symm.trans h
      refine xr_icf 401 (in_87 rfl) rfl c1361 ?_
      refine xr_aload_n (in_87 rfl) rfl ?_
      refine xq_getr (in_87 rfl) (fo_87 rfl) (sh_35 n) rfl ?_
      refine xr_iload (in_87 rfl) rfl ?_
      obtain ⟨o1362, h⟩ := xg_e h
      refine xq_iald (in_87 rfl) (sh_36 n) o1362 ?_
      refine xr_iconst_ _ (in_87 rfl) (show _ = (3 : Int32) by decide) ?_
      obtain ⟨j1368, e1369, h⟩ := xj_e h
      have q1370 : ∀ (x1367 : Int32), j1368 x1367 = some (r, m') → xm_Run pg xt (d + 2) 87 0 0 (xQ_i (sh n) r m') 86 [some (xv_r 35), some (xv_i a1354), some (xv_l a1355), none, some (xv_i a1356), some (xv_l a1357), none, none, some (xv_i a1358), some (xv_i a1359), some (xv_i a1360), none, none, none, none, none] [xv_i x1367] (xq_2 (sh n) m1353) 0 0 := by
        intro x1367 h
        rw [e1369] at h
        refine xr_istore [some (xv_r 35), some (xv_i a1354), some (xv_l a1355), none, some (xv_i a1356), some (xv_l a1357), none, none, some (xv_i a1358), some (xv_i a1359), some (xv_i a1360), some (xv_i x1367), none, none, none, none] (in_87 rfl) (nl_87 rfl) rfl ?_
        refine xr_aload_n (in_87 rfl) rfl ?_
        refine xq_getr (in_87 rfl) (fo_87 rfl) (sh_35 n) rfl ?_
        refine xr_iload (in_87 rfl) rfl ?_
        obtain ⟨o1371, h⟩ := xg_e h
        refine xq_iald (in_87 rfl) (sh_36 n) o1371 ?_
        refine xq_calla [xv_i (m1353.1 36 a1360.toNatClampNeg)] [] [some (xv_i (m1353.1 36 a1360.toNatClampNeg))] (xk_S (in_87 rfl)) (cl_87 rfl) rfl rfl rfl rfl (mm_hasTwo_ok n (d + 1) rfl) ?_
        obtain ⟨j1377, e1378, h⟩ := xj_e h
        have q1379 : ∀ (x1376 : Int32), j1377 x1376 = some (r, m') → xm_Run pg xt (d + 2) 87 0 0 (xQ_i (sh n) r m') 117 [some (xv_r 35), some (xv_i a1354), some (xv_l a1355), none, some (xv_i a1356), some (xv_l a1357), none, none, some (xv_i a1358), some (xv_i a1359), some (xv_i a1360), some (xv_i x1367), none, none, none, none] [xv_i x1376] (xq_2 (sh n) m1353) 0 0 := by
          intro x1376 h
          rw [e1378] at h
          refine xr_istore [some (xv_r 35), some (xv_i a1354), some (xv_l a1355), none, some (xv_i a1356), some (xv_l a1357), none, none, some (xv_i a1358), some (xv_i a1359), some (xv_i a1360), some (xv_i x1367), some (xv_i x1376), none, none, none] (in_87 rfl) (nl_87 rfl) rfl ?_
          refine xr_iconst_ _ (in_87 rfl) (show _ = (0 : Int32) by decide) ?_
          refine xr_istore [some (xv_r 35), some (xv_i a1354), some (xv_l a1355), none, some (xv_i a1356), some (xv_l a1357), none, none, some (xv_i a1358), some (xv_i a1359), some (xv_i a1360), some (xv_i x1367), some (xv_i x1376), some (xv_i (0 : Int32)), none, none] (in_87 rfl) (nl_87 rfl) rfl ?_
          refine xr_iconst_ _ (in_87 rfl) (show _ = (0 : Int32) by decide) ?_
          refine xr_istore [some (xv_r 35), some (xv_i a1354), some (xv_l a1355), none, some (xv_i a1356), some (xv_l a1357), none, none, some (xv_i a1358), some (xv_i a1359), some (xv_i a1360), some (xv_i x1367), some (xv_i x1376), some (xv_i (0 : Int32)), some (xv_i (0 : Int32)), none] (in_87 rfl) (nl_87 rfl) rfl ?_
          refine mm_has_l125_ok n d (fun x1409 m1410 h => ?_) F (0 : Int32) (0 : Int32) m1353 h
          refine xr_aload_n (in_87 rfl) rfl ?_
          refine xq_getr (in_87 rfl) (fo_87 rfl) (sh_35 n) rfl ?_
          refine xr_iload (in_87 rfl) rfl ?_
          obtain ⟨o1411, h⟩ := xg_e h
          refine xq_iald (in_87 rfl) (sh_36 n) o1411 ?_
          by_cases c1412 : (m1410.1 36 a1360.toNatClampNeg) = (0 : Int32)
          · replace h := (if_pos c1412).symm.trans h
            refine xr_swi 268 (in_87 rfl) (by rw [c1412]; decide) (by rw [c1412]; decide) (by rw [c1412]; rfl) rfl ?_
            refine xr_aload_n (in_87 rfl) rfl ?_
            refine xq_getr (in_87 rfl) (fo_87 rfl) (sh_35 n) rfl ?_
            refine xr_iload (in_87 rfl) rfl ?_
            refine xr_iload (in_87 rfl) rfl ?_
            obtain ⟨o1413, h⟩ := xg_e h
            refine xq_iast (in_87 rfl) (sh_57 n) o1413 ?_
            obtain ⟨m1414, e1415, h⟩ := xs_e h
            rw [← e1415]
            clear e1415
            refine xr_goto 395 (in_87 rfl) rfl ?_
            refine xr_iinc (a1360 + (1 : Int32)) [some (xv_r 35), some (xv_i a1354), some (xv_l a1355), none, some (xv_i a1356), some (xv_l a1357), none, none, some (xv_i a1358), some (xv_i a1359), some (xv_i (a1360 + (1 : Int32))), some (xv_i x1367), some (xv_i x1376), some (xv_i x1409), none, none] (in_87 rfl) rfl (xi_1 _) (nl_87 rfl) rfl ?_
            refine xr_goto 53 (in_87 rfl) rfl ?_
            refine xr_forget (loc' := [some (xv_r 35), some (xv_i a1354), some (xv_l a1355), none, some (xv_i a1356), some (xv_l a1357), none, none, some (xv_i a1358), some (xv_i a1359), some (xv_i (a1360 + (1 : Int32))), none, none, none, none, none]) (xl_s (xl_s (xl_s (xl_o (xl_s (xl_s (xl_o (xl_o (xl_s (xl_s (xl_s (xl_o (xl_o (xl_o (xl_o (xl_o xl_n)))))))))))))))) ?_
            exact ih (a1360 + (1 : Int32)) m1414 h
          replace h := (if_neg c1412).symm.trans h
          by_cases c1416 : (m1410.1 36 a1360.toNatClampNeg) = (1 : Int32)
          · replace h := (if_pos c1416).symm.trans h
            refine xr_swi 280 (in_87 rfl) (by rw [c1416]; decide) (by rw [c1416]; decide) (by rw [c1416]; rfl) rfl ?_
            refine xr_aload_n (in_87 rfl) rfl ?_
            refine xq_getr (in_87 rfl) (fo_87 rfl) (sh_35 n) rfl ?_
            refine xr_iload (in_87 rfl) rfl ?_
            refine xr_iconst_ _ (in_87 rfl) (show _ = (0 : Int32) by decide) ?_
            obtain ⟨o1417, h⟩ := xg_e h
            refine xq_iast (in_87 rfl) (sh_57 n) o1417 ?_
            obtain ⟨m1418, e1419, h⟩ := xs_e h
            rw [← e1419]
            clear e1419
            refine xr_goto 395 (in_87 rfl) rfl ?_
            refine xr_iinc (a1360 + (1 : Int32)) [some (xv_r 35), some (xv_i a1354), some (xv_l a1355), none, some (xv_i a1356), some (xv_l a1357), none, none, some (xv_i a1358), some (xv_i a1359), some (xv_i (a1360 + (1 : Int32))), some (xv_i x1367), some (xv_i x1376), some (xv_i x1409), none, none] (in_87 rfl) rfl (xi_1 _) (nl_87 rfl) rfl ?_
            refine xr_goto 53 (in_87 rfl) rfl ?_
            refine xr_forget (loc' := [some (xv_r 35), some (xv_i a1354), some (xv_l a1355), none, some (xv_i a1356), some (xv_l a1357), none, none, some (xv_i a1358), some (xv_i a1359), some (xv_i (a1360 + (1 : Int32))), none, none, none, none, none]) (xl_s (xl_s (xl_s (xl_o (xl_s (xl_s (xl_o (xl_o (xl_s (xl_s (xl_s (xl_o (xl_o (xl_o (xl_o (xl_o xl_n)))))))))))))))) ?_
            exact ih (a1360 + (1 : Int32)) m1418 h
          replace h := (if_neg c1416).symm.trans h
          by_cases c1420 : (m1410.1 36 a1360.toNatClampNeg) = (4 : Int32)
          · replace h := (if_pos c1420).symm.trans h
            refine xr_swi 291 (in_87 rfl) (by rw [c1420]; decide) (by rw [c1420]; decide) (by rw [c1420]; rfl) rfl ?_
            refine xr_aload_n (in_87 rfl) rfl ?_
            refine xq_getr (in_87 rfl) (fo_87 rfl) (sh_35 n) rfl ?_
            refine xr_iload (in_87 rfl) rfl ?_
            refine xr_iload (in_87 rfl) rfl ?_
            refine xr_iload (in_87 rfl) rfl ?_
            refine xr_iand (in_87 rfl) ?_
            obtain ⟨o1421, h⟩ := xg_e h
            refine xq_iast (in_87 rfl) (sh_57 n) o1421 ?_
            obtain ⟨m1422, e1423, h⟩ := xs_e h
            rw [← e1423]
            clear e1423
            refine xr_goto 395 (in_87 rfl) rfl ?_
            refine xr_iinc (a1360 + (1 : Int32)) [some (xv_r 35), some (xv_i a1354), some (xv_l a1355), none, some (xv_i a1356), some (xv_l a1357), none, none, some (xv_i a1358), some (xv_i a1359), some (xv_i (a1360 + (1 : Int32))), some (xv_i x1367), some (xv_i x1376), some (xv_i x1409), none, none] (in_87 rfl) rfl (xi_1 _) (nl_87 rfl) rfl ?_
            refine xr_goto 53 (in_87 rfl) rfl ?_
            refine xr_forget (loc' := [some (xv_r 35), some (xv_i a1354), some (xv_l a1355), none, some (xv_i a1356), some (xv_l a1357), none, none, some (xv_i a1358), some (xv_i a1359), some (xv_i (a1360 + (1 : Int32))), none, none, none, none, none]) (xl_s (xl_s (xl_s (xl_o (xl_s (xl_s (xl_o (xl_o (xl_s (xl_s (xl_s (xl_o (xl_o (xl_o (xl_o (xl_o xl_n)))))))))))))))) ?_
            exact ih (a1360 + (1 : Int32)) m1422 h
          replace h := (if_neg c1420).symm.trans h
          by_cases c1424 : (m1410.1 36 a1360.toNatClampNeg) = (5 : Int32)
          · replace h := (if_pos c1424).symm.trans h
            refine xr_swi 306 (in_87 rfl) (by rw [c1424]; decide) (by rw [c1424]; decide) (by rw [c1424]; rfl) rfl ?_
            refine xr_aload_n (in_87 rfl) rfl ?_
            refine xq_getr (in_87 rfl) (fo_87 rfl) (sh_35 n) rfl ?_
            refine xr_iload (in_87 rfl) rfl ?_
            refine xr_iload (in_87 rfl) rfl ?_
            refine xr_iload (in_87 rfl) rfl ?_
            refine xr_ior (in_87 rfl) ?_
            obtain ⟨o1425, h⟩ := xg_e h
            refine xq_iast (in_87 rfl) (sh_57 n) o1425 ?_
            obtain ⟨m1426, e1427, h⟩ := xs_e h
            rw [← e1427]
            clear e1427
            refine xr_goto 395 (in_87 rfl) rfl ?_
            refine xr_iinc (a1360 + (1 : Int32)) [some (xv_r 35), some (xv_i a1354), some (xv_l a1355), none, some (xv_i a1356), some (xv_l a1357), none, none, some (xv_i a1358), some (xv_i a1359), some (xv_i (a1360 + (1 : Int32))), some (xv_i x1367), some (xv_i x1376), some (xv_i x1409), none, none] (in_87 rfl) rfl (xi_1 _) (nl_87 rfl) rfl ?_
            refine xr_goto 53 (in_87 rfl) rfl ?_
            refine xr_forget (loc' := [some (xv_r 35), some (xv_i a1354), some (xv_l a1355), none, some (xv_i a1356), some (xv_l a1357), none, none, some (xv_i a1358), some (xv_i a1359), some (xv_i (a1360 + (1 : Int32))), none, none, none, none, none]) (xl_s (xl_s (xl_s (xl_o (xl_s (xl_s (xl_o (xl_o (xl_s (xl_s (xl_s (xl_o (xl_o (xl_o (xl_o (xl_o xl_n)))))))))))))))) ?_
            exact ih (a1360 + (1 : Int32)) m1426 h
          replace h := (if_neg c1424).symm.trans h
          by_cases c1428 : (m1410.1 36 a1360.toNatClampNeg) = (6 : Int32)
          · replace h := (if_pos c1428).symm.trans h
            refine xr_swi 321 (in_87 rfl) (by rw [c1428]; decide) (by rw [c1428]; decide) (by rw [c1428]; rfl) rfl ?_
            refine xr_aload_n (in_87 rfl) rfl ?_
            refine xq_getr (in_87 rfl) (fo_87 rfl) (sh_35 n) rfl ?_
            refine xr_iload (in_87 rfl) rfl ?_
            refine xr_iload (in_87 rfl) rfl ?_
            refine xr_iload (in_87 rfl) rfl ?_
            refine xr_iload (in_87 rfl) rfl ?_
            refine xq_calla [xv_i x1367, xv_i a1356, xv_i a1358] [xv_i a1360, xv_r 57] [some (xv_i x1367), some (xv_i a1356), some (xv_i a1358), none] (xk_S (in_87 rfl)) (cl_87 rfl) rfl rfl rfl rfl (mm_ahead_ok n (d + 1) rfl) ?_
            obtain ⟨o1429, h⟩ := xg_e h
            refine xq_iast (in_87 rfl) (sh_57 n) o1429 ?_
            obtain ⟨m1430, e1431, h⟩ := xs_e h
            rw [← e1431]
            clear e1431
            refine xr_goto 395 (in_87 rfl) rfl ?_
            refine xr_iinc (a1360 + (1 : Int32)) [some (xv_r 35), some (xv_i a1354), some (xv_l a1355), none, some (xv_i a1356), some (xv_l a1357), none, none, some (xv_i a1358), some (xv_i a1359), some (xv_i (a1360 + (1 : Int32))), some (xv_i x1367), some (xv_i x1376), some (xv_i x1409), none, none] (in_87 rfl) rfl (xi_1 _) (nl_87 rfl) rfl ?_
            refine xr_goto 53 (in_87 rfl) rfl ?_
            refine xr_forget (loc' := [some (xv_r 35), some (xv_i a1354), some (xv_l a1355), none, some (xv_i a1356), some (xv_l a1357), none, none, some (xv_i a1358), some (xv_i a1359), some (xv_i (a1360 + (1 : Int32))), none, none, none, none, none]) (xl_s (xl_s (xl_s (xl_o (xl_s (xl_s (xl_o (xl_o (xl_s (xl_s (xl_s (xl_o (xl_o (xl_o (xl_o (xl_o xl_n)))))))))))))))) ?_
            exact ih (a1360 + (1 : Int32)) m1430 h
          replace h := (if_neg c1428).symm.trans h
          by_cases c1432 : (m1410.1 36 a1360.toNatClampNeg) = (7 : Int32)
          · replace h := (if_pos c1432).symm.trans h
            refine xr_swi 340 (in_87 rfl) (by rw [c1432]; decide) (by rw [c1432]; decide) (by rw [c1432]; rfl) rfl ?_
            refine xr_aload_n (in_87 rfl) rfl ?_
            refine xq_getr (in_87 rfl) (fo_87 rfl) (sh_35 n) rfl ?_
            refine xr_iload (in_87 rfl) rfl ?_
            refine xr_aload_n (in_87 rfl) rfl ?_
            refine xr_iload (in_87 rfl) rfl ?_
            refine xr_iload (in_87 rfl) rfl ?_
            refine xr_iconst_ _ (in_87 rfl) (show _ = (1 : Int32) by decide) ?_
            refine xr_iload (in_87 rfl) rfl ?_
            refine xr_iload (in_87 rfl) rfl ?_
            obtain ⟨v1447, m1448, e1449, h⟩ := xc_m_e h
            refine xq_calla [xv_r 35, xv_i x1367, xv_i x1376, xv_i (1 : Int32), xv_i a1356, xv_i a1358] [xv_i a1360, xv_r 57] [some (xv_r 35), some (xv_i x1367), some (xv_i x1376), some (xv_i (1 : Int32)), some (xv_i a1356), some (xv_i a1358), none, none] (xk_V (in_87 rfl) (sh_35 n)) (cl_87 rfl) rfl rfl rfl rfl (mm_fixed_ok n d e1449) ?_
            obtain ⟨o1451, h⟩ := xg_e h
            refine xq_iast (in_87 rfl) (sh_57 n) o1451 ?_
            obtain ⟨m1452, e1453, h⟩ := xs_e h
            rw [← e1453]
            clear e1453
            refine xr_goto 395 (in_87 rfl) rfl ?_
            refine xr_iinc (a1360 + (1 : Int32)) [some (xv_r 35), some (xv_i a1354), some (xv_l a1355), none, some (xv_i a1356), some (xv_l a1357), none, none, some (xv_i a1358), some (xv_i a1359), some (xv_i (a1360 + (1 : Int32))), some (xv_i x1367), some (xv_i x1376), some (xv_i x1409), none, none] (in_87 rfl) rfl (xi_1 _) (nl_87 rfl) rfl ?_
            refine xr_goto 53 (in_87 rfl) rfl ?_
            refine xr_forget (loc' := [some (xv_r 35), some (xv_i a1354), some (xv_l a1355), none, some (xv_i a1356), some (xv_l a1357), none, none, some (xv_i a1358), some (xv_i a1359), some (xv_i (a1360 + (1 : Int32))), none, none, none, none, none]) (xl_s (xl_s (xl_s (xl_o (xl_s (xl_s (xl_o (xl_o (xl_s (xl_s (xl_s (xl_o (xl_o (xl_o (xl_o (xl_o xl_n)))))))))))))))) ?_
            exact ih (a1360 + (1 : Int32)) m1452 h
          replace h := (if_neg c1432).symm.trans h
          by_cases c1454 : (m1410.1 36 a1360.toNatClampNeg) = (8 : Int32)
          · replace h := (if_pos c1454).symm.trans h
            refine xr_swi 363 (in_87 rfl) (by rw [c1454]; decide) (by rw [c1454]; decide) (by rw [c1454]; rfl) rfl ?_
            refine xr_aload_n (in_87 rfl) rfl ?_
            refine xq_getr (in_87 rfl) (fo_87 rfl) (sh_35 n) rfl ?_
            refine xr_iload (in_87 rfl) rfl ?_
            refine xr_aload_n (in_87 rfl) rfl ?_
            refine xr_iload (in_87 rfl) rfl ?_
            refine xr_iload (in_87 rfl) rfl ?_
            refine xr_iconst_ _ (in_87 rfl) (show _ = (0 : Int32) by decide) ?_
            refine xr_iload (in_87 rfl) rfl ?_
            refine xr_iload (in_87 rfl) rfl ?_
            obtain ⟨v1455, m1456, e1457, h⟩ := xc_m_e h
            refine xq_calla [xv_r 35, xv_i x1367, xv_i x1376, xv_i (0 : Int32), xv_i a1356, xv_i a1358] [xv_i a1360, xv_r 57] [some (xv_r 35), some (xv_i x1367), some (xv_i x1376), some (xv_i (0 : Int32)), some (xv_i a1356), some (xv_i a1358), none, none] (xk_V (in_87 rfl) (sh_35 n)) (cl_87 rfl) rfl rfl rfl rfl (mm_fixed_ok n d e1457) ?_
            obtain ⟨o1459, h⟩ := xg_e h
            refine xq_iast (in_87 rfl) (sh_57 n) o1459 ?_
            obtain ⟨m1460, e1461, h⟩ := xs_e h
            rw [← e1461]
            clear e1461
            refine xr_goto 395 (in_87 rfl) rfl ?_
            refine xr_iinc (a1360 + (1 : Int32)) [some (xv_r 35), some (xv_i a1354), some (xv_l a1355), none, some (xv_i a1356), some (xv_l a1357), none, none, some (xv_i a1358), some (xv_i a1359), some (xv_i (a1360 + (1 : Int32))), some (xv_i x1367), some (xv_i x1376), some (xv_i x1409), none, none] (in_87 rfl) rfl (xi_1 _) (nl_87 rfl) rfl ?_
            refine xr_goto 53 (in_87 rfl) rfl ?_
            refine xr_forget (loc' := [some (xv_r 35), some (xv_i a1354), some (xv_l a1355), none, some (xv_i a1356), some (xv_l a1357), none, none, some (xv_i a1358), some (xv_i a1359), some (xv_i (a1360 + (1 : Int32))), none, none, none, none, none]) (xl_s (xl_s (xl_s (xl_o (xl_s (xl_s (xl_o (xl_o (xl_s (xl_s (xl_s (xl_o (xl_o (xl_o (xl_o (xl_o xl_n)))))))))))))))) ?_
            exact ih (a1360 + (1 : Int32)) m1460 h
          replace h := (if_neg c1454).symm.trans h
          have c1412z : (m1410.1 36 a1360.toNatClampNeg).toInt ≠ 0 := fun q => c1412 (Int32.toInt_inj.mp (q.trans (by decide)))
          have c1416z : (m1410.1 36 a1360.toNatClampNeg).toInt ≠ 1 := fun q => c1416 (Int32.toInt_inj.mp (q.trans (by decide)))
          have c1420z : (m1410.1 36 a1360.toNatClampNeg).toInt ≠ 4 := fun q => c1420 (Int32.toInt_inj.mp (q.trans (by decide)))
          have c1424z : (m1410.1 36 a1360.toNatClampNeg).toInt ≠ 5 := fun q => c1424 (Int32.toInt_inj.mp (q.trans (by decide)))
          have c1428z : (m1410.1 36 a1360.toNatClampNeg).toInt ≠ 6 := fun q => c1428 (Int32.toInt_inj.mp (q.trans (by decide)))
          have c1432z : (m1410.1 36 a1360.toNatClampNeg).toInt ≠ 7 := fun q => c1432 (Int32.toInt_inj.mp (q.trans (by decide)))
          have c1454z : (m1410.1 36 a1360.toNatClampNeg).toInt ≠ 8 := fun q => c1454 (Int32.toInt_inj.mp (q.trans (by decide)))
          by_cases c1465 : (m1410.1 36 a1360.toNatClampNeg) = (2 : Int32)
          · refine xr_swi 386 (in_87 rfl) (by rw [c1465]; decide) (by rw [c1465]; decide) (by rw [c1465]; rfl) rfl ?_
            refine xr_aload_n (in_87 rfl) rfl ?_
            refine xq_getr (in_87 rfl) (fo_87 rfl) (sh_35 n) rfl ?_
            refine xr_iload (in_87 rfl) rfl ?_
            refine xr_iload (in_87 rfl) rfl ?_
            obtain ⟨o1462, h⟩ := xg_e h
            refine xq_iast (in_87 rfl) (sh_57 n) o1462 ?_
            obtain ⟨m1463, e1464, h⟩ := xs_e h
            rw [← e1464]
            clear e1464
            refine xr_iinc (a1360 + (1 : Int32)) [some (xv_r 35), some (xv_i a1354), some (xv_l a1355), none, some (xv_i a1356), some (xv_l a1357), none, none, some (xv_i a1358), some (xv_i a1359), some (xv_i (a1360 + (1 : Int32))), some (xv_i x1367), some (xv_i x1376), some (xv_i x1409), none, none] (in_87 rfl) rfl (xi_1 _) (nl_87 rfl) rfl ?_
            refine xr_goto 53 (in_87 rfl) rfl ?_
            refine xr_forget (loc' := [some (xv_r 35), some (xv_i a1354), some (xv_l a1355), none, some (xv_i a1356), some (xv_l a1357), none, none, some (xv_i a1358), some (xv_i a1359), some (xv_i (a1360 + (1 : Int32))), none, none, none, none, none]) (xl_s (xl_s (xl_s (xl_o (xl_s (xl_s (xl_o (xl_o (xl_s (xl_s (xl_s (xl_o (xl_o (xl_o (xl_o (xl_o xl_n)))))))))))))))) ?_
            exact ih (a1360 + (1 : Int32)) m1463 h
          have c1465z : (m1410.1 36 a1360.toNatClampNeg).toInt ≠ 2 := fun q => c1465 (Int32.toInt_inj.mp (q.trans (by decide)))
          by_cases c1466 : (m1410.1 36 a1360.toNatClampNeg) = (3 : Int32)
          · refine xr_swi 386 (in_87 rfl) (by rw [c1466]; decide) (by rw [c1466]; decide) (by rw [c1466]; rfl) rfl ?_
            refine xr_aload_n (in_87 rfl) rfl ?_
            refine xq_getr (in_87 rfl) (fo_87 rfl) (sh_35 n) rfl ?_
            refine xr_iload (in_87 rfl) rfl ?_
            refine xr_iload (in_87 rfl) rfl ?_
            obtain ⟨o1462, h⟩ := xg_e h
            refine xq_iast (in_87 rfl) (sh_57 n) o1462 ?_
            obtain ⟨m1463, e1464, h⟩ := xs_e h
            rw [← e1464]
            clear e1464
            refine xr_iinc (a1360 + (1 : Int32)) [some (xv_r 35), some (xv_i a1354), some (xv_l a1355), none, some (xv_i a1356), some (xv_l a1357), none, none, some (xv_i a1358), some (xv_i a1359), some (xv_i (a1360 + (1 : Int32))), some (xv_i x1367), some (xv_i x1376), some (xv_i x1409), none, none] (in_87 rfl) rfl (xi_1 _) (nl_87 rfl) rfl ?_
            refine xr_goto 53 (in_87 rfl) rfl ?_
            refine xr_forget (loc' := [some (xv_r 35), some (xv_i a1354), some (xv_l a1355), none, some (xv_i a1356), some (xv_l a1357), none, none, some (xv_i a1358), some (xv_i a1359), some (xv_i (a1360 + (1 : Int32))), none, none, none, none, none]) (xl_s (xl_s (xl_s (xl_o (xl_s (xl_s (xl_o (xl_o (xl_s (xl_s (xl_s (xl_o (xl_o (xl_o (xl_o (xl_o xl_n)))))))))))))))) ?_
            exact ih (a1360 + (1 : Int32)) m1463 h
          have c1466z : (m1410.1 36 a1360.toNatClampNeg).toInt ≠ 3 := fun q => c1466 (Int32.toInt_inj.mp (q.trans (by decide)))
          refine xr_swo 386 (in_87 rfl) (by omega) rfl ?_
          refine xr_aload_n (in_87 rfl) rfl ?_
          refine xq_getr (in_87 rfl) (fo_87 rfl) (sh_35 n) rfl ?_
          refine xr_iload (in_87 rfl) rfl ?_
          refine xr_iload (in_87 rfl) rfl ?_
          obtain ⟨o1462, h⟩ := xg_e h
          refine xq_iast (in_87 rfl) (sh_57 n) o1462 ?_
          obtain ⟨m1463, e1464, h⟩ := xs_e h
          rw [← e1464]
          clear e1464
          refine xr_iinc (a1360 + (1 : Int32)) [some (xv_r 35), some (xv_i a1354), some (xv_l a1355), none, some (xv_i a1356), some (xv_l a1357), none, none, some (xv_i a1358), some (xv_i a1359), some (xv_i (a1360 + (1 : Int32))), some (xv_i x1367), some (xv_i x1376), some (xv_i x1409), none, none] (in_87 rfl) rfl (xi_1 _) (nl_87 rfl) rfl ?_
          refine xr_goto 53 (in_87 rfl) rfl ?_
          refine xr_forget (loc' := [some (xv_r 35), some (xv_i a1354), some (xv_l a1355), none, some (xv_i a1356), some (xv_l a1357), none, none, some (xv_i a1358), some (xv_i a1359), some (xv_i (a1360 + (1 : Int32))), none, none, none, none, none]) (xl_s (xl_s (xl_s (xl_o (xl_s (xl_s (xl_o (xl_o (xl_s (xl_s (xl_s (xl_o (xl_o (xl_o (xl_o (xl_o xl_n)))))))))))))))) ?_
          exact ih (a1360 + (1 : Int32)) m1463 h
        clear e1378
        by_cases c1467 : (mm_hasTwo (m1353.1 36 a1360.toNatClampNeg)) = 0
        · replace h := (if_pos c1467).symm.trans h
          refine xr_ift 116 (in_87 rfl) rfl c1467 ?_
          refine xr_iconst_ _ (in_87 rfl) (show _ = (0 : Int32) by decide) ?_
          exact q1379 (0 : Int32) h
        · replace h := (if_neg c1467).symm.trans h
          refine xr_iff 116 (in_87 rfl) rfl c1467 ?_
          refine xr_aload_n (in_87 rfl) rfl ?_
          refine xq_getr (in_87 rfl) (fo_87 rfl) (sh_35 n) rfl ?_
          refine xr_aload_n (in_87 rfl) rfl ?_
          refine xq_getr (in_87 rfl) (fo_87 rfl) (sh_35 n) rfl ?_
          refine xr_iload (in_87 rfl) rfl ?_
          obtain ⟨o1468, h⟩ := xg_e h
          refine xq_iald (in_87 rfl) (sh_38 n) o1468 ?_
          obtain ⟨o1469, h⟩ := xg_e h
          refine xq_iald (in_87 rfl) (sh_57 n) o1469 ?_
          refine xr_goto 117 (in_87 rfl) rfl ?_
          exact q1379 (m1353.1 57 (m1353.1 38 a1360.toNatClampNeg).toNatClampNeg) h
      clear e1369
      by_cases c1470 : (m1353.1 36 a1360.toNatClampNeg) ≤ (3 : Int32)
      · replace h := (if_pos c1470).symm.trans h
        refine xr_ict 85 (in_87 rfl) rfl c1470 ?_
        refine xr_iconst_ _ (in_87 rfl) (show _ = (0 : Int32) by decide) ?_
        exact q1370 (0 : Int32) h
      · replace h := (if_neg c1470).symm.trans h
        refine xr_icf 85 (in_87 rfl) rfl c1470 ?_
        refine xr_aload_n (in_87 rfl) rfl ?_
        refine xq_getr (in_87 rfl) (fo_87 rfl) (sh_35 n) rfl ?_
        refine xr_aload_n (in_87 rfl) rfl ?_
        refine xq_getr (in_87 rfl) (fo_87 rfl) (sh_35 n) rfl ?_
        refine xr_iload (in_87 rfl) rfl ?_
        obtain ⟨o1471, h⟩ := xg_e h
        refine xq_iald (in_87 rfl) (sh_37 n) o1471 ?_
        obtain ⟨o1472, h⟩ := xg_e h
        refine xq_iald (in_87 rfl) (sh_57 n) o1472 ?_
        refine xr_goto 86 (in_87 rfl) rfl ?_
        exact q1370 (m1353.1 57 (m1353.1 37 a1360.toNatClampNeg).toNatClampNeg) h
def mm_has (F : Nat) (a1 : Int32) (a2 : Int64) (a3 : Int32) (a4 : Int64) (a5 : Int32) (m : xm_S) : Option (Int32 × xm_S) := if (mm_isFormula a1 m) = 0 then some ((-1 : Int32), m) else if a3 < 0 then some ((-1 : Int32), m) else if (8 : Int32) < a3 then some ((-1 : Int32), m) else if a5 < (1 : Int32) then some ((-1 : Int32), m) else if a5 ≤ (8 : Int32) then mm_has_l53 F a1 a2 a3 a4 (a3 + a5) (((1 : Int32) <<< ((a3 + a5) &&& 31)) - (1 : Int32)) (fun (m1473 : xm_S) => xg_n a1 28 (some ((m1473.1 57 a1.toNatClampNeg) &&& (1 : Int32), m1473))) F (0 : Int32) m else some ((-1 : Int32), m)
theorem mm_has_ok {xt : Nat → Nat × (Nat → Int32)} (n d : Nat) {F : Nat} {a1 : Int32} {a2 : Int64} {a3 : Int32} {a4 : Int64} {a5 : Int32} {m m' : xm_S} {r : Int32} (h : mm_has F a1 a2 a3 a4 a5 m = some (r, m')) : xm_Run pg xt (d + 2) 87 0 0 (xQ_i (sh n) r m') 0 [some (xv_r 35), some (xv_i a1), some (xv_l a2), none, some (xv_i a3), some (xv_l a4), none, some (xv_i a5), none, none, none, none, none, none, none, none] [] (xq_2 (sh n) m) 0 0 := by
  unfold mm_has at h
  refine xr_aload_n (in_87 rfl) rfl ?_
  refine xr_iload_n (in_87 rfl) rfl ?_
  refine xq_calla [xv_r 35, xv_i a1] [] [some (xv_r 35), some (xv_i a1)] (xk_V (in_87 rfl) (sh_35 n)) (cl_87 rfl) rfl rfl rfl rfl (mm_isFormula_ok n (d + 1) rfl) ?_
  by_cases c1348 : (mm_isFormula a1 m) = 0
  · replace h := (if_pos c1348).symm.trans h
    refine xr_ift 33 (in_87 rfl) rfl c1348 ?_
    refine xr_iconst_ _ (in_87 rfl) (show _ = (-1 : Int32) by decide) ?_
    obtain ⟨rfl, rfl⟩ := Prod.mk.inj (Option.some.inj h)
    exact xr_iret (kd_87) (in_87 rfl) (Nat.le_refl _) (Nat.le_refl _) ⟨rfl, rfl⟩
  · replace h := (if_neg c1348).symm.trans h
    refine xr_iff 33 (in_87 rfl) rfl c1348 ?_
    refine xr_iload (in_87 rfl) rfl ?_
    by_cases c1349 : a3 < 0
    · replace h := (if_pos c1349).symm.trans h
      refine xr_ift 33 (in_87 rfl) rfl c1349 ?_
      refine xr_iconst_ _ (in_87 rfl) (show _ = (-1 : Int32) by decide) ?_
      obtain ⟨rfl, rfl⟩ := Prod.mk.inj (Option.some.inj h)
      exact xr_iret (kd_87) (in_87 rfl) (Nat.le_refl _) (Nat.le_refl _) ⟨rfl, rfl⟩
    · replace h := (if_neg c1349).symm.trans h
      refine xr_iff 33 (in_87 rfl) rfl c1349 ?_
      refine xr_iload (in_87 rfl) rfl ?_
      refine xr_bipush_ _ (in_87 rfl) (show _ = (8 : Int32) by decide) ?_
      by_cases c1350 : (8 : Int32) < a3
      · replace h := (if_pos c1350).symm.trans h
        refine xr_ict 33 (in_87 rfl) rfl c1350 ?_
        refine xr_iconst_ _ (in_87 rfl) (show _ = (-1 : Int32) by decide) ?_
        obtain ⟨rfl, rfl⟩ := Prod.mk.inj (Option.some.inj h)
        exact xr_iret (kd_87) (in_87 rfl) (Nat.le_refl _) (Nat.le_refl _) ⟨rfl, rfl⟩
      · replace h := (if_neg c1350).symm.trans h
        refine xr_icf 33 (in_87 rfl) rfl c1350 ?_
        refine xr_iload (in_87 rfl) rfl ?_
        refine xr_iconst_ _ (in_87 rfl) (show _ = (1 : Int32) by decide) ?_
        by_cases c1351 : a5 < (1 : Int32)
        · replace h := (if_pos c1351).symm.trans h
          refine xr_ict 33 (in_87 rfl) rfl c1351 ?_
          refine xr_iconst_ _ (in_87 rfl) (show _ = (-1 : Int32) by decide) ?_
          obtain ⟨rfl, rfl⟩ := Prod.mk.inj (Option.some.inj h)
          exact xr_iret (kd_87) (in_87 rfl) (Nat.le_refl _) (Nat.le_refl _) ⟨rfl, rfl⟩
        · replace h := (if_neg c1351).symm.trans h
          refine xr_icf 33 (in_87 rfl) rfl c1351 ?_
          refine xr_iload (in_87 rfl) rfl ?_
          refine xr_bipush_ _ (in_87 rfl) (show _ = (8 : Int32) by decide) ?_
          by_cases c1352 : a5 ≤ (8 : Int32)
          · replace h := (if_pos c1352).symm.trans h
            refine xr_ict 35 (in_87 rfl) rfl c1352 ?_
            refine xr_iload (in_87 rfl) rfl ?_
            refine xr_iload (in_87 rfl) rfl ?_
            refine xr_iadd (in_87 rfl) ?_
            refine xr_istore [some (xv_r 35), some (xv_i a1), some (xv_l a2), none, some (xv_i a3), some (xv_l a4), none, some (xv_i a5), some (xv_i (a3 + a5)), none, none, none, none, none, none, none] (in_87 rfl) (nl_87 rfl) rfl ?_
            refine xr_iconst_ _ (in_87 rfl) (show _ = (1 : Int32) by decide) ?_
            refine xr_iload (in_87 rfl) rfl ?_
            refine xr_ishl (in_87 rfl) ?_
            refine xr_iconst_ _ (in_87 rfl) (show _ = (1 : Int32) by decide) ?_
            refine xr_isub (in_87 rfl) ?_
            refine xr_istore [some (xv_r 35), some (xv_i a1), some (xv_l a2), none, some (xv_i a3), some (xv_l a4), none, some (xv_i a5), some (xv_i (a3 + a5)), some (xv_i (((1 : Int32) <<< ((a3 + a5) &&& 31)) - (1 : Int32))), none, none, none, none, none, none] (in_87 rfl) (nl_87 rfl) rfl ?_
            refine xr_iconst_ _ (in_87 rfl) (show _ = (0 : Int32) by decide) ?_
            refine xr_istore [some (xv_r 35), some (xv_i a1), some (xv_l a2), none, some (xv_i a3), some (xv_l a4), none, some (xv_i a5), some (xv_i (a3 + a5)), some (xv_i (((1 : Int32) <<< ((a3 + a5) &&& 31)) - (1 : Int32))), some (xv_i (0 : Int32)), none, none, none, none, none] (in_87 rfl) (nl_87 rfl) rfl ?_
            refine xr_forget (loc' := [some (xv_r 35), some (xv_i a1), some (xv_l a2), none, some (xv_i a3), some (xv_l a4), none, none, some (xv_i (a3 + a5)), some (xv_i (((1 : Int32) <<< ((a3 + a5) &&& 31)) - (1 : Int32))), some (xv_i (0 : Int32)), none, none, none, none, none]) (xl_s (xl_s (xl_s (xl_o (xl_s (xl_s (xl_o (xl_o (xl_s (xl_s (xl_s (xl_o (xl_o (xl_o (xl_o (xl_o xl_n)))))))))))))))) ?_
            refine mm_has_l53_ok n d (fun m1473 h => ?_) F (0 : Int32) m h
            refine xr_aload_n (in_87 rfl) rfl ?_
            refine xq_getr (in_87 rfl) (fo_87 rfl) (sh_35 n) rfl ?_
            refine xr_iload_n (in_87 rfl) rfl ?_
            obtain ⟨o1474, h⟩ := xg_e h
            refine xq_iald (in_87 rfl) (sh_57 n) o1474 ?_
            refine xr_iconst_ _ (in_87 rfl) (show _ = (1 : Int32) by decide) ?_
            refine xr_iand (in_87 rfl) ?_
            obtain ⟨rfl, rfl⟩ := Prod.mk.inj (Option.some.inj h)
            exact xr_iret (kd_87) (in_87 rfl) (Nat.le_refl _) (Nat.le_refl _) ⟨rfl, rfl⟩
          · replace h := (if_neg c1352).symm.trans h
            refine xr_icf 35 (in_87 rfl) rfl c1352 ?_
            refine xr_iconst_ _ (in_87 rfl) (show _ = (-1 : Int32) by decide) ?_
            obtain ⟨rfl, rfl⟩ := Prod.mk.inj (Option.some.inj h)
            exact xr_iret (kd_87) (in_87 rfl) (Nat.le_refl _) (Nat.le_refl _) ⟨rfl, rfl⟩
def mm_addWay_l15 (F : Nat) (a1493 : Int32) (a1494 : Int64) (k : xm_S → Option (xm_S)) : Nat → Int32 → xm_S → Option (xm_S)
  | 0, _, _ => none
  | fu + 1, a1495, m1492 => xg_n a1493 28 (if (m1492.1 42 a1493.toNatClampNeg) ≤ a1495 then k m1492 else xg_n (((60 : Int32) * a1493) + a1495) 1680 (if (lg_cmp (m1492.2 41 (((60 : Int32) * a1493) + a1495).toNatClampNeg) a1494) = 0 then some m1492 else mm_addWay_l15 F a1493 a1494 k fu (a1495 + (1 : Int32)) m1492))
theorem mm_addWay_l15_ok {xt : Nat → Nat × (Nat → Int32)} (n d : Nat) {F : Nat} {a1493 : Int32} {a1494 : Int64} {k : xm_S → Option (xm_S)} {m' : xm_S} 
    (hk : ∀ (m : xm_S), k m = some m' → xm_Run pg xt d 94 0 0 (xQ_v (sh n) m') 50 [some (xv_r 35), some (xv_i a1493), some (xv_l a1494), none, none] [] (xq_2 (sh n) m) 0 0) :
    ∀ (fu : Nat) (a1495 : Int32) (m1492 : xm_S), mm_addWay_l15 F a1493 a1494 k fu a1495 m1492 = some m' → xm_Run pg xt d 94 0 0 (xQ_v (sh n) m') 15 [some (xv_r 35), some (xv_i a1493), some (xv_l a1494), none, some (xv_i a1495)] [] (xq_2 (sh n) m1492) 0 0 := by
  intro fu
  induction fu with
  | zero => intro a1495 m1492 h; cases h
  | succ fu ih =>
    intro a1495 m1492 h
    rw [mm_addWay_l15] at h
    refine xr_iload (in_94 rfl) rfl ?_
    refine xr_aload_n (in_94 rfl) rfl ?_
    refine xq_getr (in_94 rfl) (fo_94 rfl) (sh_35 n) rfl ?_
    refine xr_iload_n (in_94 rfl) rfl ?_
    obtain ⟨o1496, h⟩ := xg_e h
    refine xq_iald (in_94 rfl) (sh_42 n) o1496 ?_
    by_cases c1497 : (m1492.1 42 a1493.toNatClampNeg) ≤ a1495
    · replace h := (if_pos c1497).symm.trans h
      refine xr_ict 50 (in_94 rfl) rfl c1497 ?_
      refine xr_forget (loc' := [some (xv_r 35), some (xv_i a1493), some (xv_l a1494), none, none]) (xl_s (xl_s (xl_s (xl_o (xl_o xl_n))))) ?_
      exact hk m1492 h
    · replace h := (if_neg c1497).symm.trans h
      refine xr_icf 50 (in_94 rfl) rfl c1497 ?_
      refine xr_aload_n (in_94 rfl) rfl ?_
      refine xq_getr (in_94 rfl) (fo_94 rfl) (sh_35 n) rfl ?_
      refine xr_bipush_ _ (in_94 rfl) (show _ = (60 : Int32) by decide) ?_
      refine xr_iload_n (in_94 rfl) rfl ?_
      refine xr_imul (in_94 rfl) ?_
      refine xr_iload (in_94 rfl) rfl ?_
      refine xr_iadd (in_94 rfl) ?_
      obtain ⟨o1498, h⟩ := xg_e h
      refine xq_lald (in_94 rfl) (sh_41 n) o1498 ?_
      refine xr_lload_n (in_94 rfl) rfl ?_
      refine xr_lcmp (in_94 rfl) ?_
      by_cases c1499 : (lg_cmp (m1492.2 41 (((60 : Int32) * a1493) + a1495).toNatClampNeg) a1494) = 0
      · replace h := (if_pos c1499).symm.trans h
        refine xr_iff 44 (in_94 rfl) rfl (fun q => q c1499) ?_
        obtain rfl := Option.some.inj h
        exact xr_vret (kd_94) (in_94 rfl) (Nat.le_refl _) (Nat.le_refl _) ⟨rfl, rfl⟩
      · replace h := (if_neg c1499).symm.trans h
        refine xr_ift 44 (in_94 rfl) rfl c1499 ?_
        refine xr_iinc (a1495 + (1 : Int32)) [some (xv_r 35), some (xv_i a1493), some (xv_l a1494), none, some (xv_i (a1495 + (1 : Int32)))] (in_94 rfl) rfl (xi_1 _) (nl_94 rfl) rfl ?_
        refine xr_goto 15 (in_94 rfl) rfl ?_
        exact ih (a1495 + (1 : Int32)) m1492 h
def mm_addWay (F : Nat) (a1 : Int32) (a2 : Int64) (m : xm_S) : Option (xm_S) := xg_n a1 28 (if (m.1 42 a1.toNatClampNeg) ≤ (60 : Int32) then mm_addWay_l15 F a1 a2 (fun (m1500 : xm_S) => xg_n a1 28 (xj_j (fun (m1508 : xm_S) => xg_n a1 28 (xg_n a1 28 (xs_m (xw_i m1508 42 a1.toNatClampNeg ((m1508.1 42 a1.toNatClampNeg) + (1 : Int32))) fun m1514 => some m1514))) fun j1509 => if (60 : Int32) ≤ (m1500.1 42 a1.toNatClampNeg) then j1509 m1500 else xg_n a1 28 (xg_n (((60 : Int32) * a1) + (m1500.1 42 a1.toNatClampNeg)) 1680 (xs_m (xw_l m1500 41 (((60 : Int32) * a1) + (m1500.1 42 a1.toNatClampNeg)).toNatClampNeg a2) fun m1519 => j1509 m1519)))) F (0 : Int32) m else some m)
theorem mm_addWay_ok {xt : Nat → Nat × (Nat → Int32)} (n d : Nat) {F : Nat} {a1 : Int32} {a2 : Int64} {m m' : xm_S} (h : mm_addWay F a1 a2 m = some m') : xm_Run pg xt d 94 0 0 (xQ_v (sh n) m') 0 [some (xv_r 35), some (xv_i a1), some (xv_l a2), none, none] [] (xq_2 (sh n) m) 0 0 := by
  unfold mm_addWay at h
  refine xr_aload_n (in_94 rfl) rfl ?_
  refine xq_getr (in_94 rfl) (fo_94 rfl) (sh_35 n) rfl ?_
  refine xr_iload_n (in_94 rfl) rfl ?_
  obtain ⟨o1490, h⟩ := xg_e h
  refine xq_iald (in_94 rfl) (sh_42 n) o1490 ?_
  refine xr_bipush_ _ (in_94 rfl) (show _ = (60 : Int32) by decide) ?_
  by_cases c1491 : (m.1 42 a1.toNatClampNeg) ≤ (60 : Int32)
  · replace h := (if_pos c1491).symm.trans h
    refine xr_ict 12 (in_94 rfl) rfl c1491 ?_
    refine xr_iconst_ _ (in_94 rfl) (show _ = (0 : Int32) by decide) ?_
    refine xr_istore [some (xv_r 35), some (xv_i a1), some (xv_l a2), none, some (xv_i (0 : Int32))] (in_94 rfl) (nl_94 rfl) rfl ?_
    refine mm_addWay_l15_ok n d (fun m1500 h => ?_) F (0 : Int32) m h
    refine xr_aload_n (in_94 rfl) rfl ?_
    refine xq_getr (in_94 rfl) (fo_94 rfl) (sh_35 n) rfl ?_
    refine xr_iload_n (in_94 rfl) rfl ?_
    obtain ⟨o1501, h⟩ := xg_e h
    refine xq_iald (in_94 rfl) (sh_42 n) o1501 ?_
    refine xr_bipush_ _ (in_94 rfl) (show _ = (60 : Int32) by decide) ?_
    obtain ⟨j1509, e1510, h⟩ := xj_e h
    have q1511 : ∀ (m1508 : xm_S), j1509 m1508 = some m' → xm_Run pg xt d 94 0 0 (xQ_v (sh n) m') 78 [some (xv_r 35), some (xv_i a1), none, none, none] [] (xq_2 (sh n) m1508) 0 0 := by
      intro m1508 h
      rw [e1510] at h
      refine xr_aload_n (in_94 rfl) rfl ?_
      refine xq_getr (in_94 rfl) (fo_94 rfl) (sh_35 n) rfl ?_
      refine xr_iload_n (in_94 rfl) rfl ?_
      refine xr_dup2 (in_94 rfl) rfl rfl ?_
      obtain ⟨o1512, h⟩ := xg_e h
      refine xq_iald (in_94 rfl) (sh_42 n) o1512 ?_
      refine xr_iconst_ _ (in_94 rfl) (show _ = (1 : Int32) by decide) ?_
      refine xr_iadd (in_94 rfl) ?_
      obtain ⟨o1513, h⟩ := xg_e h
      refine xq_iast (in_94 rfl) (sh_42 n) o1513 ?_
      obtain ⟨m1514, e1515, h⟩ := xs_e h
      rw [← e1515]
      clear e1515
      obtain rfl := Option.some.inj h
      exact xr_vret (kd_94) (in_94 rfl) (Nat.le_refl _) (Nat.le_refl _) ⟨rfl, rfl⟩
    clear e1510
    by_cases c1516 : (60 : Int32) ≤ (m1500.1 42 a1.toNatClampNeg)
    · replace h := (if_pos c1516).symm.trans h
      refine xr_ict 78 (in_94 rfl) rfl c1516 ?_
      refine xr_forget (loc' := [some (xv_r 35), some (xv_i a1), none, none, none]) (xl_s (xl_s (xl_o (xl_o (xl_o xl_n))))) ?_
      exact q1511 m1500 h
    · replace h := (if_neg c1516).symm.trans h
      refine xr_icf 78 (in_94 rfl) rfl c1516 ?_
      refine xr_aload_n (in_94 rfl) rfl ?_
      refine xq_getr (in_94 rfl) (fo_94 rfl) (sh_35 n) rfl ?_
      refine xr_bipush_ _ (in_94 rfl) (show _ = (60 : Int32) by decide) ?_
      refine xr_iload_n (in_94 rfl) rfl ?_
      refine xr_imul (in_94 rfl) ?_
      refine xr_aload_n (in_94 rfl) rfl ?_
      refine xq_getr (in_94 rfl) (fo_94 rfl) (sh_35 n) rfl ?_
      refine xr_iload_n (in_94 rfl) rfl ?_
      obtain ⟨o1517, h⟩ := xg_e h
      refine xq_iald (in_94 rfl) (sh_42 n) o1517 ?_
      refine xr_iadd (in_94 rfl) ?_
      refine xr_lload_n (in_94 rfl) rfl ?_
      obtain ⟨o1518, h⟩ := xg_e h
      refine xq_last (in_94 rfl) (sh_41 n) o1518 ?_
      obtain ⟨m1519, e1520, h⟩ := xs_e h
      rw [← e1520]
      clear e1520
      refine xr_forget (loc' := [some (xv_r 35), some (xv_i a1), none, none, none]) (xl_s (xl_s (xl_o (xl_o (xl_o xl_n))))) ?_
      exact q1511 m1519 h
  · replace h := (if_neg c1491).symm.trans h
    refine xr_icf 12 (in_94 rfl) rfl c1491 ?_
    obtain rfl := Option.some.inj h
    exact xr_vret (kd_94) (in_94 rfl) (Nat.le_refl _) (Nat.le_refl _) ⟨rfl, rfl⟩
def mm_addJoined_l51 (F : Nat) (a1556 : Int32) (a1557 : Int32) (a1558 : Int32) (a1559 : Int32) (a1560 : Int32) (k : xm_S → Option (xm_S)) : Nat → Int32 → xm_S → Option (xm_S)
  | 0, _, _ => none
  | fu + 1, a1561, m1555 => xg_n a1558 28 (if (m1555.1 42 a1558.toNatClampNeg) ≤ a1561 then k m1555 else xg_n (((60 : Int32) * a1557) + a1560) 1680 (xg_n (((60 : Int32) * a1558) + a1561) 1680 (xc_v (mm_addWay F a1556 ((m1555.2 41 (((60 : Int32) * a1557) + a1560).toNatClampNeg) ||| (m1555.2 41 (((60 : Int32) * a1558) + a1561).toNatClampNeg)) m1555) fun m1567 => mm_addJoined_l51 F a1556 a1557 a1558 a1559 a1560 k fu (a1561 + (1 : Int32)) m1567)))
theorem mm_addJoined_l51_ok {xt : Nat → Nat × (Nat → Int32)} (n d : Nat) {F : Nat} {a1556 : Int32} {a1557 : Int32} {a1558 : Int32} {a1559 : Int32} {a1560 : Int32} {k : xm_S → Option (xm_S)} {m' : xm_S} 
    (hk : ∀ (m : xm_S), k m = some m' → xm_Run pg xt (d + 1) 95 0 0 (xQ_v (sh n) m') 98 [some (xv_r 35), some (xv_i a1556), some (xv_i a1557), some (xv_i a1558), some (xv_i a1559), some (xv_i a1560), none] [] (xq_2 (sh n) m) 0 0) :
    ∀ (fu : Nat) (a1561 : Int32) (m1555 : xm_S), mm_addJoined_l51 F a1556 a1557 a1558 a1559 a1560 k fu a1561 m1555 = some m' → xm_Run pg xt (d + 1) 95 0 0 (xQ_v (sh n) m') 51 [some (xv_r 35), some (xv_i a1556), some (xv_i a1557), some (xv_i a1558), some (xv_i a1559), some (xv_i a1560), some (xv_i a1561)] [] (xq_2 (sh n) m1555) 0 0 := by
  intro fu
  induction fu with
  | zero => intro a1561 m1555 h; cases h
  | succ fu ih =>
    intro a1561 m1555 h
    rw [mm_addJoined_l51] at h
    refine xr_iload (in_95 rfl) rfl ?_
    refine xr_aload_n (in_95 rfl) rfl ?_
    refine xq_getr (in_95 rfl) (fo_95 rfl) (sh_35 n) rfl ?_
    refine xr_iload_n (in_95 rfl) rfl ?_
    obtain ⟨o1562, h⟩ := xg_e h
    refine xq_iald (in_95 rfl) (sh_42 n) o1562 ?_
    by_cases c1563 : (m1555.1 42 a1558.toNatClampNeg) ≤ a1561
    · replace h := (if_pos c1563).symm.trans h
      refine xr_ict 98 (in_95 rfl) rfl c1563 ?_
      refine xr_forget (loc' := [some (xv_r 35), some (xv_i a1556), some (xv_i a1557), some (xv_i a1558), some (xv_i a1559), some (xv_i a1560), none]) (xl_s (xl_s (xl_s (xl_s (xl_s (xl_s (xl_o xl_n))))))) ?_
      exact hk m1555 h
    · replace h := (if_neg c1563).symm.trans h
      refine xr_icf 98 (in_95 rfl) rfl c1563 ?_
      refine xr_aload_n (in_95 rfl) rfl ?_
      refine xr_iload_n (in_95 rfl) rfl ?_
      refine xr_aload_n (in_95 rfl) rfl ?_
      refine xq_getr (in_95 rfl) (fo_95 rfl) (sh_35 n) rfl ?_
      refine xr_bipush_ _ (in_95 rfl) (show _ = (60 : Int32) by decide) ?_
      refine xr_iload_n (in_95 rfl) rfl ?_
      refine xr_imul (in_95 rfl) ?_
      refine xr_iload (in_95 rfl) rfl ?_
      refine xr_iadd (in_95 rfl) ?_
      obtain ⟨o1564, h⟩ := xg_e h
      refine xq_lald (in_95 rfl) (sh_41 n) o1564 ?_
      refine xr_aload_n (in_95 rfl) rfl ?_
      refine xq_getr (in_95 rfl) (fo_95 rfl) (sh_35 n) rfl ?_
      refine xr_bipush_ _ (in_95 rfl) (show _ = (60 : Int32) by decide) ?_
      refine xr_iload_n (in_95 rfl) rfl ?_
      refine xr_imul (in_95 rfl) ?_
      refine xr_iload (in_95 rfl) rfl ?_
      refine xr_iadd (in_95 rfl) ?_
      obtain ⟨o1565, h⟩ := xg_e h
      refine xq_lald (in_95 rfl) (sh_41 n) o1565 ?_
      refine xr_lor (in_95 rfl) ?_
      obtain ⟨m1567, e1568, h⟩ := xc_v_e h
      refine xq_callv [xv_r 35, xv_i a1556, xv_l ((m1555.2 41 (((60 : Int32) * a1557) + a1560).toNatClampNeg) ||| (m1555.2 41 (((60 : Int32) * a1558) + a1561).toNatClampNeg))] [] [some (xv_r 35), some (xv_i a1556), some (xv_l ((m1555.2 41 (((60 : Int32) * a1557) + a1560).toNatClampNeg) ||| (m1555.2 41 (((60 : Int32) * a1558) + a1561).toNatClampNeg))), none, none] (xk_V (in_95 rfl) (sh_35 n)) (cl_95 rfl) rfl rfl rfl rfl (mm_addWay_ok n d e1568) ?_
      refine xr_iinc (a1561 + (1 : Int32)) [some (xv_r 35), some (xv_i a1556), some (xv_i a1557), some (xv_i a1558), some (xv_i a1559), some (xv_i a1560), some (xv_i (a1561 + (1 : Int32)))] (in_95 rfl) rfl (xi_1 _) (nl_95 rfl) rfl ?_
      refine xr_goto 51 (in_95 rfl) rfl ?_
      exact ih (a1561 + (1 : Int32)) m1567 h
def mm_addJoined_l32 (F : Nat) (a1547 : Int32) (a1548 : Int32) (a1549 : Int32) (a1550 : Int32) (k : xm_S → Option (xm_S)) : Nat → Int32 → xm_S → Option (xm_S)
  | 0, _, _ => none
  | fu + 1, a1551, m1546 => xg_n a1548 28 (if (m1546.1 42 a1548.toNatClampNeg) ≤ a1551 then k m1546 else if a1550 = 0 then k m1546 else mm_addJoined_l51 F a1547 a1548 a1549 a1550 a1551 (fun (m1570 : xm_S) => mm_addJoined_l32 F a1547 a1548 a1549 a1550 k fu (a1551 + (1 : Int32)) m1570) F (0 : Int32) m1546)
theorem mm_addJoined_l32_ok {xt : Nat → Nat × (Nat → Int32)} (n d : Nat) {F : Nat} {a1547 : Int32} {a1548 : Int32} {a1549 : Int32} {a1550 : Int32} {k : xm_S → Option (xm_S)} {m' : xm_S} 
    (hk : ∀ (m : xm_S), k m = some m' → xm_Run pg xt (d + 1) 95 0 0 (xQ_v (sh n) m') 104 [some (xv_r 35), some (xv_i a1547), none, none, some (xv_i a1550), none, none] [] (xq_2 (sh n) m) 0 0) :
    ∀ (fu : Nat) (a1551 : Int32) (m1546 : xm_S), mm_addJoined_l32 F a1547 a1548 a1549 a1550 k fu a1551 m1546 = some m' → xm_Run pg xt (d + 1) 95 0 0 (xQ_v (sh n) m') 32 [some (xv_r 35), some (xv_i a1547), some (xv_i a1548), some (xv_i a1549), some (xv_i a1550), some (xv_i a1551), none] [] (xq_2 (sh n) m1546) 0 0 := by
  intro fu
  induction fu with
  | zero => intro a1551 m1546 h; cases h
  | succ fu ih =>
    intro a1551 m1546 h
    rw [mm_addJoined_l32] at h
    refine xr_iload (in_95 rfl) rfl ?_
    refine xr_aload_n (in_95 rfl) rfl ?_
    refine xq_getr (in_95 rfl) (fo_95 rfl) (sh_35 n) rfl ?_
    refine xr_iload_n (in_95 rfl) rfl ?_
    obtain ⟨o1552, h⟩ := xg_e h
    refine xq_iald (in_95 rfl) (sh_42 n) o1552 ?_
    by_cases c1553 : (m1546.1 42 a1548.toNatClampNeg) ≤ a1551
    · replace h := (if_pos c1553).symm.trans h
      refine xr_ict 104 (in_95 rfl) rfl c1553 ?_
      refine xr_forget (loc' := [some (xv_r 35), some (xv_i a1547), none, none, some (xv_i a1550), none, none]) (xl_s (xl_s (xl_o (xl_o (xl_s (xl_o (xl_o xl_n))))))) ?_
      exact hk m1546 h
    · replace h := (if_neg c1553).symm.trans h
      refine xr_icf 104 (in_95 rfl) rfl c1553 ?_
      refine xr_iload (in_95 rfl) rfl ?_
      by_cases c1554 : a1550 = 0
      · replace h := (if_pos c1554).symm.trans h
        refine xr_ift 104 (in_95 rfl) rfl c1554 ?_
        refine xr_forget (loc' := [some (xv_r 35), some (xv_i a1547), none, none, some (xv_i a1550), none, none]) (xl_s (xl_s (xl_o (xl_o (xl_s (xl_o (xl_o xl_n))))))) ?_
        exact hk m1546 h
      · replace h := (if_neg c1554).symm.trans h
        refine xr_iff 104 (in_95 rfl) rfl c1554 ?_
        refine xr_iconst_ _ (in_95 rfl) (show _ = (0 : Int32) by decide) ?_
        refine xr_istore [some (xv_r 35), some (xv_i a1547), some (xv_i a1548), some (xv_i a1549), some (xv_i a1550), some (xv_i a1551), some (xv_i (0 : Int32))] (in_95 rfl) (nl_95 rfl) rfl ?_
        refine mm_addJoined_l51_ok n d (fun m1570 h => ?_) F (0 : Int32) m1546 h
        refine xr_iinc (a1551 + (1 : Int32)) [some (xv_r 35), some (xv_i a1547), some (xv_i a1548), some (xv_i a1549), some (xv_i a1550), some (xv_i (a1551 + (1 : Int32))), none] (in_95 rfl) rfl (xi_1 _) (nl_95 rfl) rfl ?_
        refine xr_goto 32 (in_95 rfl) rfl ?_
        exact ih (a1551 + (1 : Int32)) m1570 h
def mm_addJoined (F : Nat) (a1 : Int32) (a2 : Int32) (a3 : Int32) (m : xm_S) : Option (xm_S) := xg_n a2 28 (xj_j (fun (x1542 : Int32) => mm_addJoined_l32 F a1 a2 a3 x1542 (fun (m1571 : xm_S) => xj_j (fun (x1575 : Int32) => xg_n a1 28 (xs_m (xw_i m1571 42 a1.toNatClampNeg x1575) fun m1580 => some m1580)) fun j1576 => if x1542 = 0 then j1576 (61 : Int32) else xg_n a1 28 (j1576 (m1571.1 42 a1.toNatClampNeg))) F (0 : Int32) m) fun j1543 => xj_j (fun (u1587 : Unit) => j1543 (0 : Int32)) fun j1588 => if (60 : Int32) < (m.1 42 a2.toNatClampNeg) then j1588 () else xg_n a3 28 (if (60 : Int32) < (m.1 42 a3.toNatClampNeg) then j1588 () else j1543 (1 : Int32)))
theorem mm_addJoined_ok {xt : Nat → Nat × (Nat → Int32)} (n d : Nat) {F : Nat} {a1 : Int32} {a2 : Int32} {a3 : Int32} {m m' : xm_S} (h : mm_addJoined F a1 a2 a3 m = some m') : xm_Run pg xt (d + 1) 95 0 0 (xQ_v (sh n) m') 0 [some (xv_r 35), some (xv_i a1), some (xv_i a2), some (xv_i a3), none, none, none] [] (xq_2 (sh n) m) 0 0 := by
  unfold mm_addJoined at h
  refine xr_aload_n (in_95 rfl) rfl ?_
  refine xq_getr (in_95 rfl) (fo_95 rfl) (sh_35 n) rfl ?_
  refine xr_iload_n (in_95 rfl) rfl ?_
  obtain ⟨o1538, h⟩ := xg_e h
  refine xq_iald (in_95 rfl) (sh_42 n) o1538 ?_
  refine xr_bipush_ _ (in_95 rfl) (show _ = (60 : Int32) by decide) ?_
  obtain ⟨j1543, e1544, h⟩ := xj_e h
  have q1545 : ∀ (x1542 : Int32), j1543 x1542 = some m' → xm_Run pg xt (d + 1) 95 0 0 (xQ_v (sh n) m') 27 [some (xv_r 35), some (xv_i a1), some (xv_i a2), some (xv_i a3), none, none, none] [xv_i x1542] (xq_2 (sh n) m) 0 0 := by
    intro x1542 h
    rw [e1544] at h
    refine xr_istore [some (xv_r 35), some (xv_i a1), some (xv_i a2), some (xv_i a3), some (xv_i x1542), none, none] (in_95 rfl) (nl_95 rfl) rfl ?_
    refine xr_iconst_ _ (in_95 rfl) (show _ = (0 : Int32) by decide) ?_
    refine xr_istore [some (xv_r 35), some (xv_i a1), some (xv_i a2), some (xv_i a3), some (xv_i x1542), some (xv_i (0 : Int32)), none] (in_95 rfl) (nl_95 rfl) rfl ?_
    refine mm_addJoined_l32_ok n d (fun m1571 h => ?_) F (0 : Int32) m h
    refine xr_aload_n (in_95 rfl) rfl ?_
    refine xq_getr (in_95 rfl) (fo_95 rfl) (sh_35 n) rfl ?_
    refine xr_iload_n (in_95 rfl) rfl ?_
    refine xr_iload (in_95 rfl) rfl ?_
    obtain ⟨j1576, e1577, h⟩ := xj_e h
    have q1578 : ∀ (x1575 : Int32), j1576 x1575 = some m' → xm_Run pg xt (d + 1) 95 0 0 (xQ_v (sh n) m') 125 [none, none, none, none, none, none, none] [xv_i x1575, xv_i a1, xv_r 42] (xq_2 (sh n) m1571) 0 0 := by
      intro x1575 h
      rw [e1577] at h
      obtain ⟨o1579, h⟩ := xg_e h
      refine xq_iast (in_95 rfl) (sh_42 n) o1579 ?_
      obtain ⟨m1580, e1581, h⟩ := xs_e h
      rw [← e1581]
      clear e1581
      obtain rfl := Option.some.inj h
      exact xr_vret (kd_95) (in_95 rfl) (Nat.le_refl _) (Nat.le_refl _) ⟨rfl, rfl⟩
    clear e1577
    by_cases c1582 : x1542 = 0
    · replace h := (if_pos c1582).symm.trans h
      refine xr_ift 123 (in_95 rfl) rfl c1582 ?_
      refine xr_bipush_ _ (in_95 rfl) (show _ = (61 : Int32) by decide) ?_
      refine xr_forget (loc' := [none, none, none, none, none, none, none]) (xl_o (xl_o (xl_o (xl_o (xl_o (xl_o (xl_o xl_n))))))) ?_
      exact q1578 (61 : Int32) h
    · replace h := (if_neg c1582).symm.trans h
      refine xr_iff 123 (in_95 rfl) rfl c1582 ?_
      refine xr_aload_n (in_95 rfl) rfl ?_
      refine xq_getr (in_95 rfl) (fo_95 rfl) (sh_35 n) rfl ?_
      refine xr_iload_n (in_95 rfl) rfl ?_
      obtain ⟨o1583, h⟩ := xg_e h
      refine xq_iald (in_95 rfl) (sh_42 n) o1583 ?_
      refine xr_goto 125 (in_95 rfl) rfl ?_
      refine xr_forget (loc' := [none, none, none, none, none, none, none]) (xl_o (xl_o (xl_o (xl_o (xl_o (xl_o (xl_o xl_n))))))) ?_
      exact q1578 (m1571.1 42 a1.toNatClampNeg) h
  clear e1544
  obtain ⟨j1588, e1589, h⟩ := xj_e h
  have q1590 : ∀ (u1587 : Unit), j1588 u1587 = some m' → xm_Run pg xt (d + 1) 95 0 0 (xQ_v (sh n) m') 26 [some (xv_r 35), some (xv_i a1), some (xv_i a2), some (xv_i a3), none, none, none] [] (xq_2 (sh n) m) 0 0 := by
    intro u1587 h
    rw [e1589] at h
    refine xr_iconst_ _ (in_95 rfl) (show _ = (0 : Int32) by decide) ?_
    exact q1545 (0 : Int32) h
  clear e1589
  by_cases c1591 : (60 : Int32) < (m.1 42 a2.toNatClampNeg)
  · replace h := (if_pos c1591).symm.trans h
    refine xr_ict 26 (in_95 rfl) rfl c1591 ?_
    exact q1590 () h
  · replace h := (if_neg c1591).symm.trans h
    refine xr_icf 26 (in_95 rfl) rfl c1591 ?_
    refine xr_aload_n (in_95 rfl) rfl ?_
    refine xq_getr (in_95 rfl) (fo_95 rfl) (sh_35 n) rfl ?_
    refine xr_iload_n (in_95 rfl) rfl ?_
    obtain ⟨o1592, h⟩ := xg_e h
    refine xq_iald (in_95 rfl) (sh_42 n) o1592 ?_
    refine xr_bipush_ _ (in_95 rfl) (show _ = (60 : Int32) by decide) ?_
    by_cases c1593 : (60 : Int32) < (m.1 42 a3.toNatClampNeg)
    · replace h := (if_pos c1593).symm.trans h
      refine xr_ict 26 (in_95 rfl) rfl c1593 ?_
      exact q1590 () h
    · replace h := (if_neg c1593).symm.trans h
      refine xr_icf 26 (in_95 rfl) rfl c1593 ?_
      refine xr_iconst_ _ (in_95 rfl) (show _ = (1 : Int32) by decide) ?_
      refine xr_goto 27 (in_95 rfl) rfl ?_
      exact q1545 (1 : Int32) h
def mm_addAll_l3 (F : Nat) (a1600 : Int32) (a1601 : Int32) (a1602 : Int64) (k : xm_S → Option (xm_S)) : Nat → Int32 → xm_S → Option (xm_S)
  | 0, _, _ => none
  | fu + 1, a1603, m1599 => xg_n a1601 28 (if (m1599.1 42 a1601.toNatClampNeg) ≤ a1603 then k m1599 else xg_n a1601 28 (if (60 : Int32) < (m1599.1 42 a1601.toNatClampNeg) then k m1599 else xg_n (((60 : Int32) * a1601) + a1603) 1680 (xc_v (mm_addWay F a1600 ((m1599.2 41 (((60 : Int32) * a1601) + a1603).toNatClampNeg) ||| a1602) m1599) fun m1610 => mm_addAll_l3 F a1600 a1601 a1602 k fu (a1603 + (1 : Int32)) m1610)))
theorem mm_addAll_l3_ok {xt : Nat → Nat × (Nat → Int32)} (n d : Nat) {F : Nat} {a1600 : Int32} {a1601 : Int32} {a1602 : Int64} {k : xm_S → Option (xm_S)} {m' : xm_S} 
    (hk : ∀ (m : xm_S), k m = some m' → xm_Run pg xt (d + 1) 96 0 0 (xQ_v (sh n) m') 50 [some (xv_r 35), some (xv_i a1600), some (xv_i a1601), none, none, none] [] (xq_2 (sh n) m) 0 0) :
    ∀ (fu : Nat) (a1603 : Int32) (m1599 : xm_S), mm_addAll_l3 F a1600 a1601 a1602 k fu a1603 m1599 = some m' → xm_Run pg xt (d + 1) 96 0 0 (xQ_v (sh n) m') 3 [some (xv_r 35), some (xv_i a1600), some (xv_i a1601), some (xv_l a1602), none, some (xv_i a1603)] [] (xq_2 (sh n) m1599) 0 0 := by
  intro fu
  induction fu with
  | zero => intro a1603 m1599 h; cases h
  | succ fu ih =>
    intro a1603 m1599 h
    rw [mm_addAll_l3] at h
    refine xr_iload (in_96 rfl) rfl ?_
    refine xr_aload_n (in_96 rfl) rfl ?_
    refine xq_getr (in_96 rfl) (fo_96 rfl) (sh_35 n) rfl ?_
    refine xr_iload_n (in_96 rfl) rfl ?_
    obtain ⟨o1604, h⟩ := xg_e h
    refine xq_iald (in_96 rfl) (sh_42 n) o1604 ?_
    by_cases c1605 : (m1599.1 42 a1601.toNatClampNeg) ≤ a1603
    · replace h := (if_pos c1605).symm.trans h
      refine xr_ict 50 (in_96 rfl) rfl c1605 ?_
      refine xr_forget (loc' := [some (xv_r 35), some (xv_i a1600), some (xv_i a1601), none, none, none]) (xl_s (xl_s (xl_s (xl_o (xl_o (xl_o xl_n)))))) ?_
      exact hk m1599 h
    · replace h := (if_neg c1605).symm.trans h
      refine xr_icf 50 (in_96 rfl) rfl c1605 ?_
      refine xr_aload_n (in_96 rfl) rfl ?_
      refine xq_getr (in_96 rfl) (fo_96 rfl) (sh_35 n) rfl ?_
      refine xr_iload_n (in_96 rfl) rfl ?_
      obtain ⟨o1606, h⟩ := xg_e h
      refine xq_iald (in_96 rfl) (sh_42 n) o1606 ?_
      refine xr_bipush_ _ (in_96 rfl) (show _ = (60 : Int32) by decide) ?_
      by_cases c1607 : (60 : Int32) < (m1599.1 42 a1601.toNatClampNeg)
      · replace h := (if_pos c1607).symm.trans h
        refine xr_ict 50 (in_96 rfl) rfl c1607 ?_
        refine xr_forget (loc' := [some (xv_r 35), some (xv_i a1600), some (xv_i a1601), none, none, none]) (xl_s (xl_s (xl_s (xl_o (xl_o (xl_o xl_n)))))) ?_
        exact hk m1599 h
      · replace h := (if_neg c1607).symm.trans h
        refine xr_icf 50 (in_96 rfl) rfl c1607 ?_
        refine xr_aload_n (in_96 rfl) rfl ?_
        refine xr_iload_n (in_96 rfl) rfl ?_
        refine xr_aload_n (in_96 rfl) rfl ?_
        refine xq_getr (in_96 rfl) (fo_96 rfl) (sh_35 n) rfl ?_
        refine xr_bipush_ _ (in_96 rfl) (show _ = (60 : Int32) by decide) ?_
        refine xr_iload_n (in_96 rfl) rfl ?_
        refine xr_imul (in_96 rfl) ?_
        refine xr_iload (in_96 rfl) rfl ?_
        refine xr_iadd (in_96 rfl) ?_
        obtain ⟨o1608, h⟩ := xg_e h
        refine xq_lald (in_96 rfl) (sh_41 n) o1608 ?_
        refine xr_lload_n (in_96 rfl) rfl ?_
        refine xr_lor (in_96 rfl) ?_
        obtain ⟨m1610, e1611, h⟩ := xc_v_e h
        refine xq_callv [xv_r 35, xv_i a1600, xv_l ((m1599.2 41 (((60 : Int32) * a1601) + a1603).toNatClampNeg) ||| a1602)] [] [some (xv_r 35), some (xv_i a1600), some (xv_l ((m1599.2 41 (((60 : Int32) * a1601) + a1603).toNatClampNeg) ||| a1602)), none, none] (xk_V (in_96 rfl) (sh_35 n)) (cl_96 rfl) rfl rfl rfl rfl (mm_addWay_ok n d e1611) ?_
        refine xr_iinc (a1603 + (1 : Int32)) [some (xv_r 35), some (xv_i a1600), some (xv_i a1601), some (xv_l a1602), none, some (xv_i (a1603 + (1 : Int32)))] (in_96 rfl) rfl (xi_1 _) (nl_96 rfl) rfl ?_
        refine xr_goto 3 (in_96 rfl) rfl ?_
        exact ih (a1603 + (1 : Int32)) m1610 h
def mm_addAll (F : Nat) (a1 : Int32) (a2 : Int32) (a3 : Int64) (m : xm_S) : Option (xm_S) := mm_addAll_l3 F a1 a2 a3 (fun (m1613 : xm_S) => xg_n a2 28 (xj_j (fun (x1618 : Int32) => xg_n a1 28 (xs_m (xw_i m1613 42 a1.toNatClampNeg x1618) fun m1623 => some m1623)) fun j1619 => if (m1613.1 42 a2.toNatClampNeg) ≤ (60 : Int32) then xg_n a1 28 (j1619 (m1613.1 42 a1.toNatClampNeg)) else j1619 (61 : Int32))) F (0 : Int32) m
theorem mm_addAll_ok {xt : Nat → Nat × (Nat → Int32)} (n d : Nat) {F : Nat} {a1 : Int32} {a2 : Int32} {a3 : Int64} {m m' : xm_S} (h : mm_addAll F a1 a2 a3 m = some m') : xm_Run pg xt (d + 1) 96 0 0 (xQ_v (sh n) m') 0 [some (xv_r 35), some (xv_i a1), some (xv_i a2), some (xv_l a3), none, none] [] (xq_2 (sh n) m) 0 0 := by
  unfold mm_addAll at h
  refine xr_iconst_ _ (in_96 rfl) (show _ = (0 : Int32) by decide) ?_
  refine xr_istore [some (xv_r 35), some (xv_i a1), some (xv_i a2), some (xv_l a3), none, some (xv_i (0 : Int32))] (in_96 rfl) (nl_96 rfl) rfl ?_
  refine mm_addAll_l3_ok n d (fun m1613 h => ?_) F (0 : Int32) m h
  refine xr_aload_n (in_96 rfl) rfl ?_
  refine xq_getr (in_96 rfl) (fo_96 rfl) (sh_35 n) rfl ?_
  refine xr_iload_n (in_96 rfl) rfl ?_
  refine xr_aload_n (in_96 rfl) rfl ?_
  refine xq_getr (in_96 rfl) (fo_96 rfl) (sh_35 n) rfl ?_
  refine xr_iload_n (in_96 rfl) rfl ?_
  obtain ⟨o1614, h⟩ := xg_e h
  refine xq_iald (in_96 rfl) (sh_42 n) o1614 ?_
  refine xr_bipush_ _ (in_96 rfl) (show _ = (60 : Int32) by decide) ?_
  obtain ⟨j1619, e1620, h⟩ := xj_e h
  have q1621 : ∀ (x1618 : Int32), j1619 x1618 = some m' → xm_Run pg xt (d + 1) 96 0 0 (xQ_v (sh n) m') 77 [none, none, none, none, none, none] [xv_i x1618, xv_i a1, xv_r 42] (xq_2 (sh n) m1613) 0 0 := by
    intro x1618 h
    rw [e1620] at h
    obtain ⟨o1622, h⟩ := xg_e h
    refine xq_iast (in_96 rfl) (sh_42 n) o1622 ?_
    obtain ⟨m1623, e1624, h⟩ := xs_e h
    rw [← e1624]
    clear e1624
    obtain rfl := Option.some.inj h
    exact xr_vret (kd_96) (in_96 rfl) (Nat.le_refl _) (Nat.le_refl _) ⟨rfl, rfl⟩
  clear e1620
  by_cases c1625 : (m1613.1 42 a2.toNatClampNeg) ≤ (60 : Int32)
  · replace h := (if_pos c1625).symm.trans h
    refine xr_ict 71 (in_96 rfl) rfl c1625 ?_
    refine xr_aload_n (in_96 rfl) rfl ?_
    refine xq_getr (in_96 rfl) (fo_96 rfl) (sh_35 n) rfl ?_
    refine xr_iload_n (in_96 rfl) rfl ?_
    obtain ⟨o1626, h⟩ := xg_e h
    refine xq_iald (in_96 rfl) (sh_42 n) o1626 ?_
    refine xr_forget (loc' := [none, none, none, none, none, none]) (xl_o (xl_o (xl_o (xl_o (xl_o (xl_o xl_n)))))) ?_
    exact q1621 (m1613.1 42 a1.toNatClampNeg) h
  · replace h := (if_neg c1625).symm.trans h
    refine xr_icf 71 (in_96 rfl) rfl c1625 ?_
    refine xr_bipush_ _ (in_96 rfl) (show _ = (61 : Int32) by decide) ?_
    refine xr_goto 77 (in_96 rfl) rfl ?_
    refine xr_forget (loc' := [none, none, none, none, none, none]) (xl_o (xl_o (xl_o (xl_o (xl_o (xl_o xl_n)))))) ?_
    exact q1621 (61 : Int32) h
