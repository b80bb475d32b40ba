/-! Methods as functions, and that they run so (written by program). -/
def bk_hasTwoParts (a0 : Int32) : Int32 := if a0 = (4 : Int32) then (1 : Int32) else if a0 = (5 : Int32) then (1 : Int32) else if a0 = (7 : Int32) then (1 : Int32) else if a0 = (8 : Int32) then (1 : Int32) else (0 : Int32)
theorem bk_hasTwoParts_b {a0 : Int32} : bk_hasTwoParts a0 = 0 ∨ bk_hasTwoParts a0 = 1 := by
  unfold bk_hasTwoParts
  repeat' split
  all_goals first | decide
theorem bk_hasTwoParts_ok {xt : Nat → Nat × (Nat → Int32)} (n d : Nat) {a0 : Int32} {m : xm_S} {r : Int32} (h : bk_hasTwoParts a0 = r) : xm_Run pg xt d 13 0 0 (xQ_i (sh n) r m) 0 [some (xv_i a0)] [] (xq_2 (sh n) m) 0 0 := by
  unfold bk_hasTwoParts at h
  refine xr_iload_n (in_13 rfl) rfl ?_
  refine xr_iconst_ _ (in_13 rfl) (show _ = (4 : Int32) by decide) ?_
  by_cases c6 : a0 = (4 : Int32)
  · replace h := (if_pos c6).symm.trans h
    refine xr_ict 22 (in_13 rfl) rfl c6 ?_
    refine xr_iconst_ _ (in_13 rfl) (show _ = (1 : Int32) by decide) ?_
    refine xr_goto 27 (in_13 rfl) rfl ?_
    subst h
    exact xr_zret (kd_13) (in_13 rfl) (by decide) (Nat.le_refl _) (Nat.le_refl _) ⟨rfl, rfl⟩
  · replace h := (if_neg c6).symm.trans h
    refine xr_icf 22 (in_13 rfl) rfl c6 ?_
    refine xr_iload_n (in_13 rfl) rfl ?_
    refine xr_iconst_ _ (in_13 rfl) (show _ = (5 : Int32) by decide) ?_
    by_cases c7 : a0 = (5 : Int32)
    · replace h := (if_pos c7).symm.trans h
      refine xr_ict 22 (in_13 rfl) rfl c7 ?_
      refine xr_iconst_ _ (in_13 rfl) (show _ = (1 : Int32) by decide) ?_
      refine xr_goto 27 (in_13 rfl) rfl ?_
      subst h
      exact xr_zret (kd_13) (in_13 rfl) (by decide) (Nat.le_refl _) (Nat.le_refl _) ⟨rfl, rfl⟩
    · replace h := (if_neg c7).symm.trans h
      refine xr_icf 22 (in_13 rfl) rfl c7 ?_
      refine xr_iload_n (in_13 rfl) rfl ?_
      refine xr_bipush_ _ (in_13 rfl) (show _ = (7 : Int32) by decide) ?_
      by_cases c8 : a0 = (7 : Int32)
      · replace h := (if_pos c8).symm.trans h
        refine xr_ict 22 (in_13 rfl) rfl c8 ?_
        refine xr_iconst_ _ (in_13 rfl) (show _ = (1 : Int32) by decide) ?_
        refine xr_goto 27 (in_13 rfl) rfl ?_
        subst h
        exact xr_zret (kd_13) (in_13 rfl) (by decide) (Nat.le_refl _) (Nat.le_refl _) ⟨rfl, rfl⟩
      · replace h := (if_neg c8).symm.trans h
        refine xr_icf 22 (in_13 rfl) rfl c8 ?_
        refine xr_iload_n (in_13 rfl) rfl ?_
        refine xr_bipush_ _ (in_13 rfl) (show _ = (8 : Int32) by decide) ?_
        by_cases c9 : a0 = (8 : Int32)
        · replace h := (if_pos c9).symm.trans h
          refine xr_icf 26 (in_13 rfl) rfl (fun q => q c9) ?_
          refine xr_iconst_ _ (in_13 rfl) (show _ = (1 : Int32) by decide) ?_
          refine xr_goto 27 (in_13 rfl) rfl ?_
          subst h
          exact xr_zret (kd_13) (in_13 rfl) (by decide) (Nat.le_refl _) (Nat.le_refl _) ⟨rfl, rfl⟩
        · replace h := (if_neg c9).symm.trans h
          refine xr_ict 26 (in_13 rfl) rfl c9 ?_
          refine xr_iconst_ _ (in_13 rfl) (show _ = (0 : Int32) by decide) ?_
          subst h
          exact xr_zret (kd_13) (in_13 rfl) (by decide) (Nat.le_refl _) (Nat.le_refl _) ⟨rfl, rfl⟩
def bk_knows (a1 : Int32) (m : xm_S) : Int32 := if a1 < 0 then (0 : Int32) else if (m.1 1 5) ≤ a1 then (0 : Int32) else (1 : Int32)
theorem bk_knows_b {a1 : Int32} {m : xm_S} : bk_knows a1 m = 0 ∨ bk_knows a1 m = 1 := by
  unfold bk_knows
  repeat' split
  all_goals first | decide
theorem bk_knows_ok {xt : Nat → Nat × (Nat → Int32)} (n d : Nat) {a1 : Int32} {m : xm_S} {r : Int32} (h : bk_knows a1 m = r) : xm_Run pg xt d 12 0 0 (xQ_i (sh n) r m) 0 [some (xv_r 1), some (xv_i a1)] [] (xq_2 (sh n) m) 0 0 := by
  unfold bk_knows at h
  refine xr_iload_n (in_12 rfl) rfl ?_
  by_cases c17 : a1 < 0
  · replace h := (if_pos c17).symm.trans h
    refine xr_ift 16 (in_12 rfl) rfl c17 ?_
    refine xr_iconst_ _ (in_12 rfl) (show _ = (0 : Int32) by decide) ?_
    subst h
    exact xr_zret (kd_12) (in_12 rfl) (by decide) (Nat.le_refl _) (Nat.le_refl _) ⟨rfl, rfl⟩
  · replace h := (if_neg c17).symm.trans h
    refine xr_iff 16 (in_12 rfl) rfl c17 ?_
    refine xr_iload_n (in_12 rfl) rfl ?_
    refine xr_aload_n (in_12 rfl) rfl ?_
    refine xq_geti (in_12 rfl) (fo_12 rfl) (sh_1 n) rfl ?_
    by_cases c18 : (m.1 1 5) ≤ a1
    · replace h := (if_pos c18).symm.trans h
      refine xr_ict 16 (in_12 rfl) rfl c18 ?_
      refine xr_iconst_ _ (in_12 rfl) (show _ = (0 : Int32) by decide) ?_
      subst h
      exact xr_zret (kd_12) (in_12 rfl) (by decide) (Nat.le_refl _) (Nat.le_refl _) ⟨rfl, rfl⟩
    · replace h := (if_neg c18).symm.trans h
      refine xr_icf 16 (in_12 rfl) rfl c18 ?_
      refine xr_iconst_ _ (in_12 rfl) (show _ = (1 : Int32) by decide) ?_
      refine xr_goto 17 (in_12 rfl) rfl ?_
      subst h
      exact xr_zret (kd_12) (in_12 rfl) (by decide) (Nat.le_refl _) (Nat.le_refl _) ⟨rfl, rfl⟩
def bk_canBuild (a1 : Int32) (a2 : Int32) (a3 : Int32) (m : xm_S) : Int32 := if a1 = 0 then (1 : Int32) else if a1 = (1 : Int32) then (1 : Int32) else if a1 = (2 : Int32) then if a2 < 0 then (0 : Int32) else if (4 : Int32) ≤ a2 then (0 : Int32) else (1 : Int32) else if a1 = (3 : Int32) then if a2 < 0 then (0 : Int32) else if (4 : Int32) ≤ a2 then (0 : Int32) else (1 : Int32) else if a1 = (6 : Int32) then bk_knows a2 m else if (bk_hasTwoParts a1) = 0 then (0 : Int32) else if (bk_knows a2 m) = 0 then (0 : Int32) else if (bk_knows a3 m) = 0 then (0 : Int32) else (1 : Int32)
theorem bk_canBuild_b {a1 : Int32} {a2 : Int32} {a3 : Int32} {m : xm_S} : bk_canBuild a1 a2 a3 m = 0 ∨ bk_canBuild a1 a2 a3 m = 1 := by
  unfold bk_canBuild
  repeat' split
  all_goals first | decide | exact bk_knows_b
theorem bk_canBuild_ok {xt : Nat → Nat × (Nat → Int32)} (n d : Nat) {a1 : Int32} {a2 : Int32} {a3 : Int32} {m : xm_S} {r : Int32} (h : bk_canBuild a1 a2 a3 m = r) : xm_Run pg xt (d + 1) 11 0 0 (xQ_i (sh n) r m) 0 [some (xv_r 1), some (xv_i a1), some (xv_i a2), some (xv_i a3)] [] (xq_2 (sh n) m) 0 0 := by
  unfold bk_canBuild at h
  refine xr_iload_n (in_11 rfl) rfl ?_
  by_cases c1 : a1 = 0
  · replace h := (if_pos c1).symm.trans h
    refine xr_ift 9 (in_11 rfl) rfl c1 ?_
    refine xr_iconst_ _ (in_11 rfl) (show _ = (1 : Int32) by decide) ?_
    subst h
    exact xr_zret (kd_11) (in_11 rfl) (by decide) (Nat.le_refl _) (Nat.le_refl _) ⟨rfl, rfl⟩
  · replace h := (if_neg c1).symm.trans h
    refine xr_iff 9 (in_11 rfl) rfl c1 ?_
    refine xr_iload_n (in_11 rfl) rfl ?_
    refine xr_iconst_ _ (in_11 rfl) (show _ = (1 : Int32) by decide) ?_
    by_cases c2 : a1 = (1 : Int32)
    · replace h := (if_pos c2).symm.trans h
      refine xr_icf 11 (in_11 rfl) rfl (fun q => q c2) ?_
      refine xr_iconst_ _ (in_11 rfl) (show _ = (1 : Int32) by decide) ?_
      subst h
      exact xr_zret (kd_11) (in_11 rfl) (by decide) (Nat.le_refl _) (Nat.le_refl _) ⟨rfl, rfl⟩
    · replace h := (if_neg c2).symm.trans h
      refine xr_ict 11 (in_11 rfl) rfl c2 ?_
      refine xr_iload_n (in_11 rfl) rfl ?_
      refine xr_iconst_ _ (in_11 rfl) (show _ = (2 : Int32) by decide) ?_
      by_cases c11 : a1 = (2 : Int32)
      · replace h := (if_pos c11).symm.trans h
        refine xr_ict 21 (in_11 rfl) rfl c11 ?_
        refine xr_iload_n (in_11 rfl) rfl ?_
        by_cases c12 : a2 < 0
        · replace h := (if_pos c12).symm.trans h
          refine xr_ift 34 (in_11 rfl) rfl c12 ?_
          refine xr_iconst_ _ (in_11 rfl) (show _ = (0 : Int32) by decide) ?_
          subst h
          exact xr_zret (kd_11) (in_11 rfl) (by decide) (Nat.le_refl _) (Nat.le_refl _) ⟨rfl, rfl⟩
        · replace h := (if_neg c12).symm.trans h
          refine xr_iff 34 (in_11 rfl) rfl c12 ?_
          refine xr_iload_n (in_11 rfl) rfl ?_
          refine xr_iconst_ _ (in_11 rfl) (show _ = (4 : Int32) by decide) ?_
          by_cases c13 : (4 : Int32) ≤ a2
          · replace h := (if_pos c13).symm.trans h
            refine xr_ict 34 (in_11 rfl) rfl c13 ?_
            refine xr_iconst_ _ (in_11 rfl) (show _ = (0 : Int32) by decide) ?_
            subst h
            exact xr_zret (kd_11) (in_11 rfl) (by decide) (Nat.le_refl _) (Nat.le_refl _) ⟨rfl, rfl⟩
          · replace h := (if_neg c13).symm.trans h
            refine xr_icf 34 (in_11 rfl) rfl c13 ?_
            refine xr_iconst_ _ (in_11 rfl) (show _ = (1 : Int32) by decide) ?_
            refine xr_goto 35 (in_11 rfl) rfl ?_
            subst h
            exact xr_zret (kd_11) (in_11 rfl) (by decide) (Nat.le_refl _) (Nat.le_refl _) ⟨rfl, rfl⟩
      · replace h := (if_neg c11).symm.trans h
        refine xr_icf 21 (in_11 rfl) rfl c11 ?_
        refine xr_iload_n (in_11 rfl) rfl ?_
        refine xr_iconst_ _ (in_11 rfl) (show _ = (3 : Int32) by decide) ?_
        by_cases c14 : a1 = (3 : Int32)
        · replace h := (if_pos c14).symm.trans h
          refine xr_icf 36 (in_11 rfl) rfl (fun q => q c14) ?_
          refine xr_iload_n (in_11 rfl) rfl ?_
          by_cases c21 : a2 < 0
          · replace h := (if_pos c21).symm.trans h
            refine xr_ift 34 (in_11 rfl) rfl c21 ?_
            refine xr_iconst_ _ (in_11 rfl) (show _ = (0 : Int32) by decide) ?_
            subst h
            exact xr_zret (kd_11) (in_11 rfl) (by decide) (Nat.le_refl _) (Nat.le_refl _) ⟨rfl, rfl⟩
          · replace h := (if_neg c21).symm.trans h
            refine xr_iff 34 (in_11 rfl) rfl c21 ?_
            refine xr_iload_n (in_11 rfl) rfl ?_
            refine xr_iconst_ _ (in_11 rfl) (show _ = (4 : Int32) by decide) ?_
            by_cases c22 : (4 : Int32) ≤ a2
            · replace h := (if_pos c22).symm.trans h
              refine xr_ict 34 (in_11 rfl) rfl c22 ?_
              refine xr_iconst_ _ (in_11 rfl) (show _ = (0 : Int32) by decide) ?_
              subst h
              exact xr_zret (kd_11) (in_11 rfl) (by decide) (Nat.le_refl _) (Nat.le_refl _) ⟨rfl, rfl⟩
            · replace h := (if_neg c22).symm.trans h
              refine xr_icf 34 (in_11 rfl) rfl c22 ?_
              refine xr_iconst_ _ (in_11 rfl) (show _ = (1 : Int32) by decide) ?_
              refine xr_goto 35 (in_11 rfl) rfl ?_
              subst h
              exact xr_zret (kd_11) (in_11 rfl) (by decide) (Nat.le_refl _) (Nat.le_refl _) ⟨rfl, rfl⟩
        · replace h := (if_neg c14).symm.trans h
          refine xr_ict 36 (in_11 rfl) rfl c14 ?_
          refine xr_iload_n (in_11 rfl) rfl ?_
          refine xr_bipush_ _ (in_11 rfl) (show _ = (6 : Int32) by decide) ?_
          by_cases c15 : a1 = (6 : Int32)
          · replace h := (if_pos c15).symm.trans h
            refine xr_icf 48 (in_11 rfl) rfl (fun q => q c15) ?_
            refine xr_aload_n (in_11 rfl) rfl ?_
            refine xr_iload_n (in_11 rfl) rfl ?_
            refine xq_calla [xv_r 1, xv_i a2] [] [some (xv_r 1), some (xv_i a2)] (xk_V (in_11 rfl) (sh_1 n)) (cl_11 rfl) rfl rfl rfl rfl (bk_knows_ok n d rfl) ?_
            subst h
            exact xr_zret (kd_11) (in_11 rfl) (bk_knows_b) (Nat.le_refl _) (Nat.le_refl _) ⟨rfl, rfl⟩
          · replace h := (if_neg c15).symm.trans h
            refine xr_ict 48 (in_11 rfl) rfl c15 ?_
            refine xr_iload_n (in_11 rfl) rfl ?_
            refine xq_calla [xv_i a1] [] [some (xv_i a1)] (xk_S (in_11 rfl)) (cl_11 rfl) rfl rfl rfl rfl (bk_hasTwoParts_ok n d rfl) ?_
            by_cases c16 : (bk_hasTwoParts a1) = 0
            · replace h := (if_pos c16).symm.trans h
              refine xr_ift 75 (in_11 rfl) rfl c16 ?_
              refine xr_iconst_ _ (in_11 rfl) (show _ = (0 : Int32) by decide) ?_
              subst h
              exact xr_zret (kd_11) (in_11 rfl) (by decide) (Nat.le_refl _) (Nat.le_refl _) ⟨rfl, rfl⟩
            · replace h := (if_neg c16).symm.trans h
              refine xr_iff 75 (in_11 rfl) rfl c16 ?_
              refine xr_aload_n (in_11 rfl) rfl ?_
              refine xr_iload_n (in_11 rfl) rfl ?_
              refine xq_calla [xv_r 1, xv_i a2] [] [some (xv_r 1), some (xv_i a2)] (xk_V (in_11 rfl) (sh_1 n)) (cl_11 rfl) rfl rfl rfl rfl (bk_knows_ok n d rfl) ?_
              by_cases c19 : (bk_knows a2 m) = 0
              · replace h := (if_pos c19).symm.trans h
                refine xr_ift 75 (in_11 rfl) rfl c19 ?_
                refine xr_iconst_ _ (in_11 rfl) (show _ = (0 : Int32) by decide) ?_
                subst h
                exact xr_zret (kd_11) (in_11 rfl) (by decide) (Nat.le_refl _) (Nat.le_refl _) ⟨rfl, rfl⟩
              · replace h := (if_neg c19).symm.trans h
                refine xr_iff 75 (in_11 rfl) rfl c19 ?_
                refine xr_aload_n (in_11 rfl) rfl ?_
                refine xr_iload_n (in_11 rfl) rfl ?_
                refine xq_calla [xv_r 1, xv_i a3] [] [some (xv_r 1), some (xv_i a3)] (xk_V (in_11 rfl) (sh_1 n)) (cl_11 rfl) rfl rfl rfl rfl (bk_knows_ok n d rfl) ?_
                by_cases c20 : (bk_knows a3 m) = 0
                · replace h := (if_pos c20).symm.trans h
                  refine xr_ift 75 (in_11 rfl) rfl c20 ?_
                  refine xr_iconst_ _ (in_11 rfl) (show _ = (0 : Int32) by decide) ?_
                  subst h
                  exact xr_zret (kd_11) (in_11 rfl) (by decide) (Nat.le_refl _) (Nat.le_refl _) ⟨rfl, rfl⟩
                · replace h := (if_neg c20).symm.trans h
                  refine xr_iff 75 (in_11 rfl) rfl c20 ?_
                  refine xr_iconst_ _ (in_11 rfl) (show _ = (1 : Int32) by decide) ?_
                  refine xr_goto 76 (in_11 rfl) rfl ?_
                  subst h
                  exact xr_zret (kd_11) (in_11 rfl) (by decide) (Nat.le_refl _) (Nat.le_refl _) ⟨rfl, rfl⟩
def bk_looksAtFirst (a0 : Int32) : Int32 := if a0 = 0 then (0 : Int32) else if a0 = (1 : Int32) then (0 : Int32) else (1 : Int32)
theorem bk_looksAtFirst_b {a0 : Int32} : bk_looksAtFirst a0 = 0 ∨ bk_looksAtFirst a0 = 1 := by
  unfold bk_looksAtFirst
  repeat' split
  all_goals first | decide
theorem bk_looksAtFirst_ok {xt : Nat → Nat × (Nat → Int32)} (n d : Nat) {a0 : Int32} {m : xm_S} {r : Int32} (h : bk_looksAtFirst a0 = r) : xm_Run pg xt d 14 0 0 (xQ_i (sh n) r m) 0 [some (xv_i a0)] [] (xq_2 (sh n) m) 0 0 := by
  unfold bk_looksAtFirst at h
  refine xr_iload_n (in_14 rfl) rfl ?_
  by_cases c24 : a0 = 0
  · replace h := (if_pos c24).symm.trans h
    refine xr_ift 13 (in_14 rfl) rfl c24 ?_
    refine xr_iconst_ _ (in_14 rfl) (show _ = (0 : Int32) by decide) ?_
    subst h
    exact xr_zret (kd_14) (in_14 rfl) (by decide) (Nat.le_refl _) (Nat.le_refl _) ⟨rfl, rfl⟩
  · replace h := (if_neg c24).symm.trans h
    refine xr_iff 13 (in_14 rfl) rfl c24 ?_
    refine xr_iload_n (in_14 rfl) rfl ?_
    refine xr_iconst_ _ (in_14 rfl) (show _ = (1 : Int32) by decide) ?_
    by_cases c25 : a0 = (1 : Int32)
    · replace h := (if_pos c25).symm.trans h
      refine xr_ict 13 (in_14 rfl) rfl c25 ?_
      refine xr_iconst_ _ (in_14 rfl) (show _ = (0 : Int32) by decide) ?_
      subst h
      exact xr_zret (kd_14) (in_14 rfl) (by decide) (Nat.le_refl _) (Nat.le_refl _) ⟨rfl, rfl⟩
    · replace h := (if_neg c25).symm.trans h
      refine xr_icf 13 (in_14 rfl) rfl c25 ?_
      refine xr_iconst_ _ (in_14 rfl) (show _ = (1 : Int32) by decide) ?_
      refine xr_goto 14 (in_14 rfl) rfl ?_
      subst h
      exact xr_zret (kd_14) (in_14 rfl) (by decide) (Nat.le_refl _) (Nat.le_refl _) ⟨rfl, rfl⟩
def bk_looksAtSecond (a0 : Int32) : Int32 := bk_hasTwoParts a0
theorem bk_looksAtSecond_b {a0 : Int32} : bk_looksAtSecond a0 = 0 ∨ bk_looksAtSecond a0 = 1 := by
  unfold bk_looksAtSecond
  repeat' split
  all_goals first | decide | exact bk_hasTwoParts_b
theorem bk_looksAtSecond_ok {xt : Nat → Nat × (Nat → Int32)} (n d : Nat) {a0 : Int32} {m : xm_S} {r : Int32} (h : bk_looksAtSecond a0 = r) : xm_Run pg xt (d + 1) 15 0 0 (xQ_i (sh n) r m) 0 [some (xv_i a0)] [] (xq_2 (sh n) m) 0 0 := by
  unfold bk_looksAtSecond at h
  refine xr_iload_n (in_15 rfl) rfl ?_
  refine xq_calla [xv_i a0] [] [some (xv_i a0)] (xk_S (in_15 rfl)) (cl_15 rfl) rfl rfl rfl rfl (bk_hasTwoParts_ok n d rfl) ?_
  subst h
  exact xr_zret (kd_15) (in_15 rfl) (bk_hasTwoParts_b) (Nat.le_refl _) (Nat.le_refl _) ⟨rfl, rfl⟩
def bk_hasParts (a0 : Int32) : Int32 := if a0 = (6 : Int32) then (1 : Int32) else if (bk_hasTwoParts a0) = 0 then (0 : Int32) else (1 : Int32)
theorem bk_hasParts_b {a0 : Int32} : bk_hasParts a0 = 0 ∨ bk_hasParts a0 = 1 := by
  unfold bk_hasParts
  repeat' split
  all_goals first | decide
theorem bk_hasParts_ok {xt : Nat → Nat × (Nat → Int32)} (n d : Nat) {a0 : Int32} {m : xm_S} {r : Int32} (h : bk_hasParts a0 = r) : xm_Run pg xt (d + 1) 17 0 0 (xQ_i (sh n) r m) 0 [some (xv_i a0)] [] (xq_2 (sh n) m) 0 0 := by
  unfold bk_hasParts at h
  refine xr_iload_n (in_17 rfl) rfl ?_
  refine xr_bipush_ _ (in_17 rfl) (show _ = (6 : Int32) by decide) ?_
  by_cases c54 : a0 = (6 : Int32)
  · replace h := (if_pos c54).symm.trans h
    refine xr_ict 13 (in_17 rfl) rfl c54 ?_
    refine xr_iconst_ _ (in_17 rfl) (show _ = (1 : Int32) by decide) ?_
    refine xr_goto 18 (in_17 rfl) rfl ?_
    subst h
    exact xr_zret (kd_17) (in_17 rfl) (by decide) (Nat.le_refl _) (Nat.le_refl _) ⟨rfl, rfl⟩
  · replace h := (if_neg c54).symm.trans h
    refine xr_icf 13 (in_17 rfl) rfl c54 ?_
    refine xr_iload_n (in_17 rfl) rfl ?_
    refine xq_calla [xv_i a0] [] [some (xv_i a0)] (xk_S (in_17 rfl)) (cl_17 rfl) rfl rfl rfl rfl (bk_hasTwoParts_ok n d rfl) ?_
    by_cases c55 : (bk_hasTwoParts a0) = 0
    · replace h := (if_pos c55).symm.trans h
      refine xr_ift 17 (in_17 rfl) rfl c55 ?_
      refine xr_iconst_ _ (in_17 rfl) (show _ = (0 : Int32) by decide) ?_
      subst h
      exact xr_zret (kd_17) (in_17 rfl) (by decide) (Nat.le_refl _) (Nat.le_refl _) ⟨rfl, rfl⟩
    · replace h := (if_neg c55).symm.trans h
      refine xr_iff 17 (in_17 rfl) rfl c55 ?_
      refine xr_iconst_ _ (in_17 rfl) (show _ = (1 : Int32) by decide) ?_
      refine xr_goto 18 (in_17 rfl) rfl ?_
      subst h
      exact xr_zret (kd_17) (in_17 rfl) (by decide) (Nat.le_refl _) (Nat.le_refl _) ⟨rfl, rfl⟩
def bk_build_l3 (F : Nat) (a29 : Int32) (a30 : Int32) (a31 : Int32) (k : xm_S → Option (Int32 × xm_S)) : Nat → Int32 → xm_S → Option (Int32 × xm_S)
  | 0, _, _ => none
  | fu + 1, a32, m28 => if (m28.1 1 5) ≤ a32 then k m28 else xg_n a32 28 (if (m28.1 2 a32.toNatClampNeg) = a29 then xg_n a32 28 (if (m28.1 3 a32.toNatClampNeg) = a30 then xg_n a32 28 (if (m28.1 4 a32.toNatClampNeg) = a31 then some (a32, m28) else bk_build_l3 F a29 a30 a31 k fu (a32 + (1 : Int32)) m28) else bk_build_l3 F a29 a30 a31 k fu (a32 + (1 : Int32)) m28) else bk_build_l3 F a29 a30 a31 k fu (a32 + (1 : Int32)) m28)
theorem bk_build_l3_ok {xt : Nat → Nat × (Nat → Int32)} (n d : Nat) {F : Nat} {a29 : Int32} {a30 : Int32} {a31 : Int32} {k : xm_S → Option (Int32 × xm_S)} {r : Int32} {m' : xm_S} 
    (hk : ∀ (m : xm_S), k m = some (r, m') → xm_Run pg xt (d + 2) 16 0 0 (xQ_i (sh n) r m') 54 [some (xv_r 1), some (xv_i a29), some (xv_i a30), some (xv_i a31), none] [] (xq_2 (sh n) m) 0 0) :
    ∀ (fu : Nat) (a32 : Int32) (m28 : xm_S), bk_build_l3 F a29 a30 a31 k fu a32 m28 = some (r, m') → xm_Run pg xt (d + 2) 16 0 0 (xQ_i (sh n) r m') 3 [some (xv_r 1), some (xv_i a29), some (xv_i a30), some (xv_i a31), some (xv_i a32)] [] (xq_2 (sh n) m28) 0 0 := by
  intro fu
  induction fu with
  | zero => intro a32 m28 h; cases h
  | succ fu ih =>
    intro a32 m28 h
    rw [bk_build_l3] at h
    refine xr_iload (in_16 rfl) rfl ?_
    refine xr_aload_n (in_16 rfl) rfl ?_
    refine xq_geti (in_16 rfl) (fo_16 rfl) (sh_1 n) rfl ?_
    by_cases c33 : (m28.1 1 5) ≤ a32
    · replace h := (if_pos c33).symm.trans h
      refine xr_ict 54 (in_16 rfl) rfl c33 ?_
      refine xr_forget (loc' := [some (xv_r 1), some (xv_i a29), some (xv_i a30), some (xv_i a31), none]) (xl_s (xl_s (xl_s (xl_s (xl_o xl_n))))) ?_
      exact hk m28 h
    · replace h := (if_neg c33).symm.trans h
      refine xr_icf 54 (in_16 rfl) rfl c33 ?_
      refine xr_aload_n (in_16 rfl) rfl ?_
      refine xq_getr (in_16 rfl) (fo_16 rfl) (sh_1 n) rfl ?_
      refine xr_iload (in_16 rfl) rfl ?_
      obtain ⟨o34, h⟩ := xg_e h
      refine xq_iald (in_16 rfl) (sh_2 n) o34 ?_
      refine xr_iload_n (in_16 rfl) rfl ?_
      by_cases c35 : (m28.1 2 a32.toNatClampNeg) = a29
      · replace h := (if_pos c35).symm.trans h
        refine xr_icf 48 (in_16 rfl) rfl (fun q => q c35) ?_
        refine xr_aload_n (in_16 rfl) rfl ?_
        refine xq_getr (in_16 rfl) (fo_16 rfl) (sh_1 n) rfl ?_
        refine xr_iload (in_16 rfl) rfl ?_
        obtain ⟨o36, h⟩ := xg_e h
        refine xq_iald (in_16 rfl) (sh_3 n) o36 ?_
        refine xr_iload_n (in_16 rfl) rfl ?_
        by_cases c37 : (m28.1 3 a32.toNatClampNeg) = a30
        · replace h := (if_pos c37).symm.trans h
          refine xr_icf 48 (in_16 rfl) rfl (fun q => q c37) ?_
          refine xr_aload_n (in_16 rfl) rfl ?_
          refine xq_getr (in_16 rfl) (fo_16 rfl) (sh_1 n) rfl ?_
          refine xr_iload (in_16 rfl) rfl ?_
          obtain ⟨o38, h⟩ := xg_e h
          refine xq_iald (in_16 rfl) (sh_4 n) o38 ?_
          refine xr_iload_n (in_16 rfl) rfl ?_
          by_cases c39 : (m28.1 4 a32.toNatClampNeg) = a31
          · replace h := (if_pos c39).symm.trans h
            refine xr_icf 48 (in_16 rfl) rfl (fun q => q c39) ?_
            refine xr_iload (in_16 rfl) rfl ?_
            obtain ⟨rfl, rfl⟩ := Prod.mk.inj (Option.some.inj h)
            exact xr_iret (kd_16) (in_16 rfl) (Nat.le_refl _) (Nat.le_refl _) ⟨rfl, rfl⟩
          · replace h := (if_neg c39).symm.trans h
            refine xr_ict 48 (in_16 rfl) rfl c39 ?_
            refine xr_iinc (a32 + (1 : Int32)) [some (xv_r 1), some (xv_i a29), some (xv_i a30), some (xv_i a31), some (xv_i (a32 + (1 : Int32)))] (in_16 rfl) rfl (xi_1 _) (nl_16 rfl) rfl ?_
            refine xr_goto 3 (in_16 rfl) rfl ?_
            exact ih (a32 + (1 : Int32)) m28 h
        · replace h := (if_neg c37).symm.trans h
          refine xr_ict 48 (in_16 rfl) rfl c37 ?_
          refine xr_iinc (a32 + (1 : Int32)) [some (xv_r 1), some (xv_i a29), some (xv_i a30), some (xv_i a31), some (xv_i (a32 + (1 : Int32)))] (in_16 rfl) rfl (xi_1 _) (nl_16 rfl) rfl ?_
          refine xr_goto 3 (in_16 rfl) rfl ?_
          exact ih (a32 + (1 : Int32)) m28 h
      · replace h := (if_neg c35).symm.trans h
        refine xr_ict 48 (in_16 rfl) rfl c35 ?_
        refine xr_iinc (a32 + (1 : Int32)) [some (xv_r 1), some (xv_i a29), some (xv_i a30), some (xv_i a31), some (xv_i (a32 + (1 : Int32)))] (in_16 rfl) rfl (xi_1 _) (nl_16 rfl) rfl ?_
        refine xr_goto 3 (in_16 rfl) rfl ?_
        exact ih (a32 + (1 : Int32)) m28 h
def bk_build (F : Nat) (a1 : Int32) (a2 : Int32) (a3 : Int32) (m : xm_S) : Option (Int32 × xm_S) := bk_build_l3 F a1 a2 a3 (fun (m40 : xm_S) => if (m40.1 1 5) < (28 : Int32) then xg_n (m40.1 1 5) 28 (xs_m (xw_i m40 2 (m40.1 1 5).toNatClampNeg a1) fun m43 => xg_n (m40.1 1 5) 28 (xs_m (xw_i m43 3 (m40.1 1 5).toNatClampNeg a2) fun m46 => xg_n (m40.1 1 5) 28 (xs_m (xw_i m46 4 (m40.1 1 5).toNatClampNeg a3) fun m49 => xg_n (m40.1 1 5) 28 (xs_m (xw_i m49 5 (m40.1 1 5).toNatClampNeg ((1 : Int32) <<< ((m40.1 1 5) &&& 31))) fun m52 => xj_j (fun (m63 : xm_S) => xj_j (fun (m74 : xm_S) => xs_m (xw_i m74 1 5 ((m74.1 1 5) + (1 : Int32))) fun m78 => some (m40.1 1 5, m78)) fun j75 => if (bk_hasTwoParts a1) = 0 then j75 m63 else xg_n (m40.1 1 5) 28 (xg_n a3 28 (xg_n (m40.1 1 5) 28 (xs_m (xw_i m63 5 (m40.1 1 5).toNatClampNeg ((m63.1 5 (m40.1 1 5).toNatClampNeg) ||| (m63.1 5 a3.toNatClampNeg))) fun m84 => j75 m84)))) fun j64 => if (bk_hasParts a1) = 0 then j64 m52 else xg_n (m40.1 1 5) 28 (xg_n a2 28 (xg_n (m40.1 1 5) 28 (xs_m (xw_i m52 5 (m40.1 1 5).toNatClampNeg ((m52.1 5 (m40.1 1 5).toNatClampNeg) ||| (m52.1 5 a2.toNatClampNeg))) fun m90 => j64 m90))))))) else some ((-2 : Int32), m40)) F (0 : Int32) m
theorem bk_build_ok {xt : Nat → Nat × (Nat → Int32)} (n d : Nat) {F : Nat} {a1 : Int32} {a2 : Int32} {a3 : Int32} {m m' : xm_S} {r : Int32} (h : bk_build F a1 a2 a3 m = some (r, m')) : xm_Run pg xt (d + 2) 16 0 0 (xQ_i (sh n) r m') 0 [some (xv_r 1), some (xv_i a1), some (xv_i a2), some (xv_i a3), none] [] (xq_2 (sh n) m) 0 0 := by
  unfold bk_build at h
  refine xr_iconst_ _ (in_16 rfl) (show _ = (0 : Int32) by decide) ?_
  refine xr_istore [some (xv_r 1), some (xv_i a1), some (xv_i a2), some (xv_i a3), some (xv_i (0 : Int32))] (in_16 rfl) (nl_16 rfl) rfl ?_
  refine bk_build_l3_ok n d (fun m40 h => ?_) F (0 : Int32) m h
  refine xr_aload_n (in_16 rfl) rfl ?_
  refine xq_geti (in_16 rfl) (fo_16 rfl) (sh_1 n) rfl ?_
  refine xr_bipush_ _ (in_16 rfl) (show _ = (28 : Int32) by decide) ?_
  by_cases c41 : (m40.1 1 5) < (28 : Int32)
  · replace h := (if_pos c41).symm.trans h
    refine xr_ict 66 (in_16 rfl) rfl c41 ?_
    refine xr_aload_n (in_16 rfl) rfl ?_
    refine xq_geti (in_16 rfl) (fo_16 rfl) (sh_1 n) rfl ?_
    refine xr_istore [some (xv_r 1), some (xv_i a1), some (xv_i a2), some (xv_i a3), some (xv_i (m40.1 1 5))] (in_16 rfl) (nl_16 rfl) rfl ?_
    refine xr_aload_n (in_16 rfl) rfl ?_
    refine xq_getr (in_16 rfl) (fo_16 rfl) (sh_1 n) rfl ?_
    refine xr_iload (in_16 rfl) rfl ?_
    refine xr_iload_n (in_16 rfl) rfl ?_
    obtain ⟨o42, h⟩ := xg_e h
    refine xq_iast (in_16 rfl) (sh_2 n) o42 ?_
    obtain ⟨m43, e44, h⟩ := xs_e h
    rw [← e44]
    clear e44
    refine xr_aload_n (in_16 rfl) rfl ?_
    refine xq_getr (in_16 rfl) (fo_16 rfl) (sh_1 n) rfl ?_
    refine xr_iload (in_16 rfl) rfl ?_
    refine xr_iload_n (in_16 rfl) rfl ?_
    obtain ⟨o45, h⟩ := xg_e h
    refine xq_iast (in_16 rfl) (sh_3 n) o45 ?_
    obtain ⟨m46, e47, h⟩ := xs_e h
    rw [← e47]
    clear e47
    refine xr_aload_n (in_16 rfl) rfl ?_
    refine xq_getr (in_16 rfl) (fo_16 rfl) (sh_1 n) rfl ?_
    refine xr_iload (in_16 rfl) rfl ?_
    refine xr_iload_n (in_16 rfl) rfl ?_
    obtain ⟨o48, h⟩ := xg_e h
    refine xq_iast (in_16 rfl) (sh_4 n) o48 ?_
    obtain ⟨m49, e50, h⟩ := xs_e h
    rw [← e50]
    clear e50
    refine xr_aload_n (in_16 rfl) rfl ?_
    refine xq_getr (in_16 rfl) (fo_16 rfl) (sh_1 n) rfl ?_
    refine xr_iload (in_16 rfl) rfl ?_
    refine xr_iconst_ _ (in_16 rfl) (show _ = (1 : Int32) by decide) ?_
    refine xr_iload (in_16 rfl) rfl ?_
    refine xr_ishl (in_16 rfl) ?_
    obtain ⟨o51, h⟩ := xg_e h
    refine xq_iast (in_16 rfl) (sh_5 n) o51 ?_
    obtain ⟨m52, e53, h⟩ := xs_e h
    rw [← e53]
    clear e53
    refine xr_iload_n (in_16 rfl) rfl ?_
    refine xq_calla [xv_i a1] [] [some (xv_i a1)] (xk_S (in_16 rfl)) (cl_16 rfl) rfl rfl rfl rfl (bk_hasParts_ok n d rfl) ?_
    obtain ⟨j64, e65, h⟩ := xj_e h
    have q66 : ∀ (m63 : xm_S), j64 m63 = some (r, m') → xm_Run pg xt (d + 2) 16 0 0 (xQ_i (sh n) r m') 130 [some (xv_r 1), some (xv_i a1), none, some (xv_i a3), some (xv_i (m40.1 1 5))] [] (xq_2 (sh n) m63) 0 0 := by
      intro m63 h
      rw [e65] at h
      refine xr_iload_n (in_16 rfl) rfl ?_
      refine xq_calla [xv_i a1] [] [some (xv_i a1)] (xk_S (in_16 rfl)) (cl_16 rfl) rfl rfl rfl rfl (bk_hasTwoParts_ok n (d + 1) rfl) ?_
      obtain ⟨j75, e76, h⟩ := xj_e h
      have q77 : ∀ (m74 : xm_S), j75 m74 = some (r, m') → xm_Run pg xt (d + 2) 16 0 0 (xQ_i (sh n) r m') 153 [some (xv_r 1), none, none, none, some (xv_i (m40.1 1 5))] [] (xq_2 (sh n) m74) 0 0 := by
        intro m74 h
        rw [e76] at h
        refine xr_aload_n (in_16 rfl) rfl ?_
        refine xr_dup (in_16 rfl) rfl ?_
        refine xq_geti (in_16 rfl) (fo_16 rfl) (sh_1 n) rfl ?_
        refine xr_iconst_ _ (in_16 rfl) (show _ = (1 : Int32) by decide) ?_
        refine xr_iadd (in_16 rfl) ?_
        refine xq_put (in_16 rfl) (fo_16 rfl) (sh_1 n) rfl (Or.inl rfl) ?_
        obtain ⟨m78, e79, h⟩ := xs_e h
        rw [← e79]
        clear e79
        refine xr_iload (in_16 rfl) rfl ?_
        obtain ⟨rfl, rfl⟩ := Prod.mk.inj (Option.some.inj h)
        exact xr_iret (kd_16) (in_16 rfl) (Nat.le_refl _) (Nat.le_refl _) ⟨rfl, rfl⟩
      clear e76
      by_cases c80 : (bk_hasTwoParts a1) = 0
      · replace h := (if_pos c80).symm.trans h
        refine xr_ift 153 (in_16 rfl) rfl c80 ?_
        refine xr_forget (loc' := [some (xv_r 1), none, none, none, some (xv_i (m40.1 1 5))]) (xl_s (xl_o (xl_o (xl_o (xl_s xl_n))))) ?_
        exact q77 m63 h
      · replace h := (if_neg c80).symm.trans h
        refine xr_iff 153 (in_16 rfl) rfl c80 ?_
        refine xr_aload_n (in_16 rfl) rfl ?_
        refine xq_getr (in_16 rfl) (fo_16 rfl) (sh_1 n) rfl ?_
        refine xr_iload (in_16 rfl) rfl ?_
        refine xr_dup2 (in_16 rfl) rfl rfl ?_
        obtain ⟨o81, h⟩ := xg_e h
        refine xq_iald (in_16 rfl) (sh_5 n) o81 ?_
        refine xr_aload_n (in_16 rfl) rfl ?_
        refine xq_getr (in_16 rfl) (fo_16 rfl) (sh_1 n) rfl ?_
        refine xr_iload_n (in_16 rfl) rfl ?_
        obtain ⟨o82, h⟩ := xg_e h
        refine xq_iald (in_16 rfl) (sh_5 n) o82 ?_
        refine xr_ior (in_16 rfl) ?_
        obtain ⟨o83, h⟩ := xg_e h
        refine xq_iast (in_16 rfl) (sh_5 n) o83 ?_
        obtain ⟨m84, e85, h⟩ := xs_e h
        rw [← e85]
        clear e85
        refine xr_forget (loc' := [some (xv_r 1), none, none, none, some (xv_i (m40.1 1 5))]) (xl_s (xl_o (xl_o (xl_o (xl_s xl_n))))) ?_
        exact q77 m84 h
    clear e65
    by_cases c86 : (bk_hasParts a1) = 0
    · replace h := (if_pos c86).symm.trans h
      refine xr_ift 130 (in_16 rfl) rfl c86 ?_
      refine xr_forget (loc' := [some (xv_r 1), some (xv_i a1), none, some (xv_i a3), some (xv_i (m40.1 1 5))]) (xl_s (xl_s (xl_o (xl_s (xl_s xl_n))))) ?_
      exact q66 m52 h
    · replace h := (if_neg c86).symm.trans h
      refine xr_iff 130 (in_16 rfl) rfl c86 ?_
      refine xr_aload_n (in_16 rfl) rfl ?_
      refine xq_getr (in_16 rfl) (fo_16 rfl) (sh_1 n) rfl ?_
      refine xr_iload (in_16 rfl) rfl ?_
      refine xr_dup2 (in_16 rfl) rfl rfl ?_
      obtain ⟨o87, h⟩ := xg_e h
      refine xq_iald (in_16 rfl) (sh_5 n) o87 ?_
      refine xr_aload_n (in_16 rfl) rfl ?_
      refine xq_getr (in_16 rfl) (fo_16 rfl) (sh_1 n) rfl ?_
      refine xr_iload_n (in_16 rfl) rfl ?_
      obtain ⟨o88, h⟩ := xg_e h
      refine xq_iald (in_16 rfl) (sh_5 n) o88 ?_
      refine xr_ior (in_16 rfl) ?_
      obtain ⟨o89, h⟩ := xg_e h
      refine xq_iast (in_16 rfl) (sh_5 n) o89 ?_
      obtain ⟨m90, e91, h⟩ := xs_e h
      rw [← e91]
      clear e91
      refine xr_forget (loc' := [some (xv_r 1), some (xv_i a1), none, some (xv_i a3), some (xv_i (m40.1 1 5))]) (xl_s (xl_s (xl_o (xl_s (xl_s xl_n))))) ?_
      exact q66 m90 h
  · replace h := (if_neg c41).symm.trans h
    refine xr_icf 66 (in_16 rfl) rfl c41 ?_
    refine xr_bipush_ _ (in_16 rfl) (show _ = (-2 : Int32) by decide) ?_
    obtain ⟨rfl, rfl⟩ := Prod.mk.inj (Option.some.inj h)
    exact xr_iret (kd_16) (in_16 rfl) (Nat.le_refl _) (Nat.le_refl _) ⟨rfl, rfl⟩
def mk_formula (F : Nat) (a1 : Int32) (a2 : Int32) (a3 : Int32) (m : xm_S) : Option (Int32 × xm_S) := if (bk_canBuild a1 a2 a3 m) = 0 then some ((-1 : Int32), m) else xc_m (bk_build F a1 (if (bk_looksAtFirst a1) = 0 then (0 : Int32) else a2) (if (bk_looksAtSecond a1) = 0 then (0 : Int32) else a3) m) fun v99 m100 => some (v99, m100)
theorem mk_formula_ok {xt : Nat → Nat × (Nat → Int32)} (n d : Nat) {F : Nat} {a1 : Int32} {a2 : Int32} {a3 : Int32} {m m' : xm_S} {r : Int32} (h : mk_formula F a1 a2 a3 m = some (r, m')) : xm_Run pg xt (d + 3) 10 0 0 (xQ_i (sh n) r m') 0 [some (xv_r 0), some (xv_i a1), some (xv_i a2), some (xv_i a3)] [] (xq_2 (sh n) m) 0 0 := by
  unfold mk_formula at h
  refine xr_aload_n (in_10 rfl) rfl ?_
  refine xq_getr (in_10 rfl) (fo_10 rfl) (sh_0 n) rfl ?_
  refine xr_iload_n (in_10 rfl) rfl ?_
  refine xr_iload_n (in_10 rfl) rfl ?_
  refine xr_iload_n (in_10 rfl) rfl ?_
  refine xq_calla [xv_r 1, xv_i a1, xv_i a2, xv_i a3] [] [some (xv_r 1), some (xv_i a1), some (xv_i a2), some (xv_i a3)] (xk_V (in_10 rfl) (sh_1 n)) (cl_10 rfl) rfl rfl rfl rfl (bk_canBuild_ok n (d + 1) rfl) ?_
  by_cases c96 : (bk_canBuild a1 a2 a3 m) = 0
  · replace h := (if_pos c96).symm.trans h
    refine xr_iff 15 (in_10 rfl) rfl (fun q => q c96) ?_
    refine xr_iconst_ _ (in_10 rfl) (show _ = (-1 : Int32) by decide) ?_
    obtain ⟨rfl, rfl⟩ := Prod.mk.inj (Option.some.inj h)
    exact xr_iret (kd_10) (in_10 rfl) (Nat.le_refl _) (Nat.le_refl _) ⟨rfl, rfl⟩
  · replace h := (if_neg c96).symm.trans h
    refine xr_ift 15 (in_10 rfl) rfl c96 ?_
    refine xr_aload_n (in_10 rfl) rfl ?_
    refine xq_getr (in_10 rfl) (fo_10 rfl) (sh_0 n) rfl ?_
    refine xr_iload_n (in_10 rfl) rfl ?_
    refine xr_iload_n (in_10 rfl) rfl ?_
    refine xq_calla [xv_i a1] [xv_i a1, xv_r 1] [some (xv_i a1)] (xk_S (in_10 rfl)) (cl_10 rfl) rfl rfl rfl rfl (bk_looksAtFirst_ok n (d + 2) rfl) ?_
    have q104 : xm_Run pg xt (d + 3) 10 0 0 (xQ_i (sh n) r m') 32 [none, some (xv_i a1), none, some (xv_i a3)] [xv_i (if (bk_looksAtFirst a1) = 0 then (0 : Int32) else a2), xv_i a1, xv_r 1] (xq_2 (sh n) m) 0 0 := by
      refine xr_iload_n (in_10 rfl) rfl ?_
      refine xq_calla [xv_i a1] [xv_i (if (bk_looksAtFirst a1) = 0 then (0 : Int32) else a2), xv_i a1, xv_r 1] [some (xv_i a1)] (xk_S (in_10 rfl)) (cl_10 rfl) rfl rfl rfl rfl (bk_looksAtSecond_ok n (d + 1) rfl) ?_
      have q103 : xm_Run pg xt (d + 3) 10 0 0 (xQ_i (sh n) r m') 44 [none, none, none, none] [xv_i (if (bk_looksAtSecond a1) = 0 then (0 : Int32) else a3), xv_i (if (bk_looksAtFirst a1) = 0 then (0 : Int32) else a2), xv_i a1, xv_r 1] (xq_2 (sh n) m) 0 0 := by
        obtain ⟨v99, m100, e101, h⟩ := xc_m_e h
        refine xq_calla [xv_r 1, xv_i a1, xv_i (if (bk_looksAtFirst a1) = 0 then (0 : Int32) else a2), xv_i (if (bk_looksAtSecond a1) = 0 then (0 : Int32) else a3)] [] [some (xv_r 1), some (xv_i a1), some (xv_i (if (bk_looksAtFirst a1) = 0 then (0 : Int32) else a2)), some (xv_i (if (bk_looksAtSecond a1) = 0 then (0 : Int32) else a3)), none] (xk_V (in_10 rfl) (sh_1 n)) (cl_10 rfl) rfl rfl rfl rfl (bk_build_ok n d e101) ?_
        obtain ⟨rfl, rfl⟩ := Prod.mk.inj (Option.some.inj h)
        exact xr_iret (kd_10) (in_10 rfl) (Nat.le_refl _) (Nat.le_refl _) ⟨rfl, rfl⟩
      by_cases c98 : (bk_looksAtSecond a1) = 0
      · refine xr_ift 43 (in_10 rfl) rfl c98 ?_
        refine xr_iconst_ _ (in_10 rfl) (show _ = (0 : Int32) by decide) ?_
        refine xr_forget (loc' := [none, none, none, none]) (xl_o (xl_o (xl_o (xl_o xl_n)))) ?_
        rw [show (if (bk_looksAtSecond a1) = 0 then (0 : Int32) else a3) = (0 : Int32) by rw [if_pos c98]] at q103
        exact q103
      · refine xr_iff 43 (in_10 rfl) rfl c98 ?_
        refine xr_iload_n (in_10 rfl) rfl ?_
        refine xr_goto 44 (in_10 rfl) rfl ?_
        refine xr_forget (loc' := [none, none, none, none]) (xl_o (xl_o (xl_o (xl_o xl_n)))) ?_
        rw [show (if (bk_looksAtSecond a1) = 0 then (0 : Int32) else a3) = a3 by rw [if_neg c98]] at q103
        exact q103
    by_cases c97 : (bk_looksAtFirst a1) = 0
    · refine xr_ift 31 (in_10 rfl) rfl c97 ?_
      refine xr_iconst_ _ (in_10 rfl) (show _ = (0 : Int32) by decide) ?_
      refine xr_forget (loc' := [none, some (xv_i a1), none, some (xv_i a3)]) (xl_o (xl_s (xl_o (xl_s xl_n)))) ?_
      rw [show (if (bk_looksAtFirst a1) = 0 then (0 : Int32) else a2) = (0 : Int32) by rw [if_pos c97]] at q104
      exact q104
    · refine xr_iff 31 (in_10 rfl) rfl c97 ?_
      refine xr_iload_n (in_10 rfl) rfl ?_
      refine xr_goto 32 (in_10 rfl) rfl ?_
      refine xr_forget (loc' := [none, some (xv_i a1), none, some (xv_i a3)]) (xl_o (xl_s (xl_o (xl_s xl_n)))) ?_
      rw [show (if (bk_looksAtFirst a1) = 0 then (0 : Int32) else a2) = a2 by rw [if_neg c97]] at q104
      exact q104
def bk_buildDual (F : Nat) (xt : Nat → Nat × (Nat → Int32)) : Nat → Int32 → Int32 → xm_S → Option (Int32 × xm_S)
  | 0, _, _, _ => none
  | fu + 1, a1, a2, m => if a2 < (28 : Int32) then xg_n a1 28 (if (m.1 6 a1.toNatClampNeg) = (-1 : Int32) then xg_n a1 28 (xg_n a1 28 (xg_n a1 28 (xj_j (fun (x118 : Int32) (m119 : xm_S) => xj_j (fun (x131 : Int32) (m132 : xm_S) => if x118 = (-2 : Int32) then some ((-2 : Int32), m132) else if x131 = (-2 : Int32) then some ((-2 : Int32), m132) else xg_n (m.1 2 a1.toNatClampNeg) (xt 1).1 (xc_m (bk_build F ((xt 1).2 (m.1 2 a1.toNatClampNeg).toNatClampNeg) x118 x131 m132) fun v139 m140 => if v139 = (-2 : Int32) then some (v139, m140) else xg_n a1 28 (xs_m (xw_i m140 6 a1.toNatClampNeg v139) fun m145 => some (v139, m145)))) fun j133 => if (bk_hasTwoParts (m.1 2 a1.toNatClampNeg)) = 0 then j133 (m.1 4 a1.toNatClampNeg) m119 else if x118 = (-2 : Int32) then j133 (m.1 4 a1.toNatClampNeg) m119 else xc_m (bk_buildDual F xt fu (m.1 4 a1.toNatClampNeg) (a2 + (1 : Int32)) m119) fun v149 m150 => j133 v149 m150) fun j120 => if (bk_hasParts (m.1 2 a1.toNatClampNeg)) = 0 then j120 (m.1 3 a1.toNatClampNeg) m else xc_m (bk_buildDual F xt fu (m.1 3 a1.toNatClampNeg) (a2 + (1 : Int32)) m) fun v154 m155 => j120 v154 m155))) else xg_n a1 28 (some (m.1 6 a1.toNatClampNeg, m))) else some ((-2 : Int32), m)
theorem bk_buildDual_ok {xt : Nat → Nat × (Nat → Int32)} (n d : Nat) {F : Nat} (fu : Nat) : ∀ {a1 : Int32} {a2 : Int32} {m m' : xm_S} {r : Int32}, bk_buildDual F xt fu a1 a2 m = some (r, m') → xm_Run pg xt (d + fu + 3) 19 0 0 (xQ_i (sh n) r m') 0 [some (xv_r 1), some (xv_i a1), some (xv_i a2), none, none, none, none] [] (xq_2 (sh n) m) 0 0 := by
  induction fu with
  | zero => intro a1 a2 m m' r h; cases h
  | succ fu ih =>
    intro a1 a2 m m' r h
    rw [bk_buildDual] at h
    refine xr_iload_n (in_19 rfl) rfl ?_
    refine xr_bipush_ _ (in_19 rfl) (show _ = (28 : Int32) by decide) ?_
    by_cases c106 : a2 < (28 : Int32)
    · replace h := (if_pos c106).symm.trans h
      refine xr_ict 9 (in_19 rfl) rfl c106 ?_
      refine xr_aload_n (in_19 rfl) rfl ?_
      refine xq_getr (in_19 rfl) (fo_19 rfl) (sh_1 n) rfl ?_
      refine xr_iload_n (in_19 rfl) rfl ?_
      obtain ⟨o107, h⟩ := xg_e h
      refine xq_iald (in_19 rfl) (sh_6 n) o107 ?_
      refine xr_iconst_ _ (in_19 rfl) (show _ = (-1 : Int32) by decide) ?_
      by_cases c108 : (m.1 6 a1.toNatClampNeg) = (-1 : Int32)
      · replace h := (if_pos c108).symm.trans h
        refine xr_ict 26 (in_19 rfl) rfl c108 ?_
        refine xr_aload_n (in_19 rfl) rfl ?_
        refine xq_getr (in_19 rfl) (fo_19 rfl) (sh_1 n) rfl ?_
        refine xr_iload_n (in_19 rfl) rfl ?_
        obtain ⟨o109, h⟩ := xg_e h
        refine xq_iald (in_19 rfl) (sh_2 n) o109 ?_
        refine xr_istore_n [some (xv_r 1), some (xv_i a1), some (xv_i a2), some (xv_i (m.1 2 a1.toNatClampNeg)), none, none, none] (in_19 rfl) (nl_19 rfl) rfl ?_
        refine xr_aload_n (in_19 rfl) rfl ?_
        refine xq_getr (in_19 rfl) (fo_19 rfl) (sh_1 n) rfl ?_
        refine xr_iload_n (in_19 rfl) rfl ?_
        obtain ⟨o110, h⟩ := xg_e h
        refine xq_iald (in_19 rfl) (sh_3 n) o110 ?_
        refine xr_istore [some (xv_r 1), some (xv_i a1), some (xv_i a2), some (xv_i (m.1 2 a1.toNatClampNeg)), some (xv_i (m.1 3 a1.toNatClampNeg)), none, none] (in_19 rfl) (nl_19 rfl) rfl ?_
        refine xr_aload_n (in_19 rfl) rfl ?_
        refine xq_getr (in_19 rfl) (fo_19 rfl) (sh_1 n) rfl ?_
        refine xr_iload_n (in_19 rfl) rfl ?_
        obtain ⟨o111, h⟩ := xg_e h
        refine xq_iald (in_19 rfl) (sh_4 n) o111 ?_
        refine xr_istore [some (xv_r 1), some (xv_i a1), some (xv_i a2), some (xv_i (m.1 2 a1.toNatClampNeg)), some (xv_i (m.1 3 a1.toNatClampNeg)), some (xv_i (m.1 4 a1.toNatClampNeg)), none] (in_19 rfl) (nl_19 rfl) rfl ?_
        refine xr_iload_n (in_19 rfl) rfl ?_
        refine xq_calla [xv_i (m.1 2 a1.toNatClampNeg)] [] [some (xv_i (m.1 2 a1.toNatClampNeg))] (xk_S (in_19 rfl)) (cl_19 rfl) rfl rfl rfl rfl (bk_hasParts_ok n (d + (fu + 1) + 1) rfl) ?_
        obtain ⟨j120, e121, h⟩ := xj_e h
        have q122 : ∀ (x118 : Int32) (m119 : xm_S), j120 x118 m119 = some (r, m') → xm_Run pg xt (d + (fu + 1) + 3) 19 0 0 (xQ_i (sh n) r m') 67 [some (xv_r 1), some (xv_i a1), some (xv_i a2), some (xv_i (m.1 2 a1.toNatClampNeg)), some (xv_i x118), some (xv_i (m.1 4 a1.toNatClampNeg)), none] [] (xq_2 (sh n) m119) 0 0 := by
          intro x118 m119 h
          rw [e121] at h
          refine xr_iload_n (in_19 rfl) rfl ?_
          refine xq_calla [xv_i (m.1 2 a1.toNatClampNeg)] [] [some (xv_i (m.1 2 a1.toNatClampNeg))] (xk_S (in_19 rfl)) (cl_19 rfl) rfl rfl rfl rfl (bk_hasTwoParts_ok n (d + (fu + 1) + 2) rfl) ?_
          obtain ⟨j133, e134, h⟩ := xj_e h
          have q135 : ∀ (x131 : Int32) (m132 : xm_S), j133 x131 m132 = some (r, m') → xm_Run pg xt (d + (fu + 1) + 3) 19 0 0 (xQ_i (sh n) r m') 92 [some (xv_r 1), some (xv_i a1), none, some (xv_i (m.1 2 a1.toNatClampNeg)), some (xv_i x118), some (xv_i x131), none] [] (xq_2 (sh n) m132) 0 0 := by
            intro x131 m132 h
            rw [e134] at h
            refine xr_iload (in_19 rfl) rfl ?_
            refine xr_bipush_ _ (in_19 rfl) (show _ = (-2 : Int32) by decide) ?_
            by_cases c136 : x118 = (-2 : Int32)
            · replace h := (if_pos c136).symm.trans h
              refine xr_ict 106 (in_19 rfl) rfl c136 ?_
              refine xr_bipush_ _ (in_19 rfl) (show _ = (-2 : Int32) by decide) ?_
              obtain ⟨rfl, rfl⟩ := Prod.mk.inj (Option.some.inj h)
              exact xr_iret (kd_19) (in_19 rfl) (Nat.le_refl _) (Nat.le_refl _) ⟨rfl, rfl⟩
            · replace h := (if_neg c136).symm.trans h
              refine xr_icf 106 (in_19 rfl) rfl c136 ?_
              refine xr_iload (in_19 rfl) rfl ?_
              refine xr_bipush_ _ (in_19 rfl) (show _ = (-2 : Int32) by decide) ?_
              by_cases c137 : x131 = (-2 : Int32)
              · replace h := (if_pos c137).symm.trans h
                refine xr_icf 109 (in_19 rfl) rfl (fun q => q c137) ?_
                refine xr_bipush_ _ (in_19 rfl) (show _ = (-2 : Int32) by decide) ?_
                obtain ⟨rfl, rfl⟩ := Prod.mk.inj (Option.some.inj h)
                exact xr_iret (kd_19) (in_19 rfl) (Nat.le_refl _) (Nat.le_refl _) ⟨rfl, rfl⟩
              · replace h := (if_neg c137).symm.trans h
                refine xr_ict 109 (in_19 rfl) rfl c137 ?_
                refine xr_aload_n (in_19 rfl) rfl ?_
                refine xr_gets (in_19 rfl) (so_19 rfl) ?_
                refine xr_iload_n (in_19 rfl) rfl ?_
                obtain ⟨o138, h⟩ := xg_e h
                refine xr_ialdx (in_19 rfl) o138 ?_
                refine xr_iload (in_19 rfl) rfl ?_
                refine xr_iload (in_19 rfl) rfl ?_
                obtain ⟨v139, m140, e141, h⟩ := xc_m_e h
                refine xq_calla [xv_r 1, xv_i ((xt 1).2 (m.1 2 a1.toNatClampNeg).toNatClampNeg), xv_i x118, xv_i x131] [] [some (xv_r 1), some (xv_i ((xt 1).2 (m.1 2 a1.toNatClampNeg).toNatClampNeg)), some (xv_i x118), some (xv_i x131), none] (xk_V (in_19 rfl) (sh_1 n)) (cl_19 rfl) rfl rfl rfl rfl (bk_build_ok n (d + (fu + 1) + 0) e141) ?_
                refine xr_istore [some (xv_r 1), some (xv_i a1), none, some (xv_i (m.1 2 a1.toNatClampNeg)), some (xv_i x118), some (xv_i x131), some (xv_i v139)] (in_19 rfl) (nl_19 rfl) rfl ?_
                refine xr_iload (in_19 rfl) rfl ?_
                refine xr_bipush_ _ (in_19 rfl) (show _ = (-2 : Int32) by decide) ?_
                by_cases c143 : v139 = (-2 : Int32)
                · replace h := (if_pos c143).symm.trans h
                  refine xr_ict 139 (in_19 rfl) rfl c143 ?_
                  refine xr_iload (in_19 rfl) rfl ?_
                  obtain ⟨rfl, rfl⟩ := Prod.mk.inj (Option.some.inj h)
                  exact xr_iret (kd_19) (in_19 rfl) (Nat.le_refl _) (Nat.le_refl _) ⟨rfl, rfl⟩
                · replace h := (if_neg c143).symm.trans h
                  refine xr_icf 139 (in_19 rfl) rfl c143 ?_
                  refine xr_aload_n (in_19 rfl) rfl ?_
                  refine xq_getr (in_19 rfl) (fo_19 rfl) (sh_1 n) rfl ?_
                  refine xr_iload_n (in_19 rfl) rfl ?_
                  refine xr_iload (in_19 rfl) rfl ?_
                  obtain ⟨o144, h⟩ := xg_e h
                  refine xq_iast (in_19 rfl) (sh_6 n) o144 ?_
                  obtain ⟨m145, e146, h⟩ := xs_e h
                  rw [← e146]
                  clear e146
                  refine xr_iload (in_19 rfl) rfl ?_
                  obtain ⟨rfl, rfl⟩ := Prod.mk.inj (Option.some.inj h)
                  exact xr_iret (kd_19) (in_19 rfl) (Nat.le_refl _) (Nat.le_refl _) ⟨rfl, rfl⟩
          clear e134
          by_cases c147 : (bk_hasTwoParts (m.1 2 a1.toNatClampNeg)) = 0
          · replace h := (if_pos c147).symm.trans h
            refine xr_ift 92 (in_19 rfl) rfl c147 ?_
            refine xr_forget (loc' := [some (xv_r 1), some (xv_i a1), none, some (xv_i (m.1 2 a1.toNatClampNeg)), some (xv_i x118), some (xv_i (m.1 4 a1.toNatClampNeg)), none]) (xl_s (xl_s (xl_o (xl_s (xl_s (xl_s (xl_o xl_n))))))) ?_
            exact q135 (m.1 4 a1.toNatClampNeg) m119 h
          · replace h := (if_neg c147).symm.trans h
            refine xr_iff 92 (in_19 rfl) rfl c147 ?_
            refine xr_iload (in_19 rfl) rfl ?_
            refine xr_bipush_ _ (in_19 rfl) (show _ = (-2 : Int32) by decide) ?_
            by_cases c148 : x118 = (-2 : Int32)
            · replace h := (if_pos c148).symm.trans h
              refine xr_ict 92 (in_19 rfl) rfl c148 ?_
              refine xr_forget (loc' := [some (xv_r 1), some (xv_i a1), none, some (xv_i (m.1 2 a1.toNatClampNeg)), some (xv_i x118), some (xv_i (m.1 4 a1.toNatClampNeg)), none]) (xl_s (xl_s (xl_o (xl_s (xl_s (xl_s (xl_o xl_n))))))) ?_
              exact q135 (m.1 4 a1.toNatClampNeg) m119 h
            · replace h := (if_neg c148).symm.trans h
              refine xr_icf 92 (in_19 rfl) rfl c148 ?_
              refine xr_aload_n (in_19 rfl) rfl ?_
              refine xr_iload (in_19 rfl) rfl ?_
              refine xr_iload_n (in_19 rfl) rfl ?_
              refine xr_iconst_ _ (in_19 rfl) (show _ = (1 : Int32) by decide) ?_
              refine xr_iadd (in_19 rfl) ?_
              obtain ⟨v149, m150, e151, h⟩ := xc_m_e h
              refine xq_calla [xv_r 1, xv_i (m.1 4 a1.toNatClampNeg), xv_i (a2 + (1 : Int32))] [] [some (xv_r 1), some (xv_i (m.1 4 a1.toNatClampNeg)), some (xv_i (a2 + (1 : Int32))), none, none, none, none] (xk_V (in_19 rfl) (sh_1 n)) (cl_19 rfl) rfl rfl rfl rfl (ih e151) ?_
              refine xr_istore [some (xv_r 1), some (xv_i a1), some (xv_i a2), some (xv_i (m.1 2 a1.toNatClampNeg)), some (xv_i x118), some (xv_i v149), none] (in_19 rfl) (nl_19 rfl) rfl ?_
              refine xr_forget (loc' := [some (xv_r 1), some (xv_i a1), none, some (xv_i (m.1 2 a1.toNatClampNeg)), some (xv_i x118), some (xv_i v149), none]) (xl_s (xl_s (xl_o (xl_s (xl_s (xl_s (xl_o xl_n))))))) ?_
              exact q135 v149 m150 h
        clear e121
        by_cases c153 : (bk_hasParts (m.1 2 a1.toNatClampNeg)) = 0
        · replace h := (if_pos c153).symm.trans h
          refine xr_ift 67 (in_19 rfl) rfl c153 ?_
          exact q122 (m.1 3 a1.toNatClampNeg) m h
        · replace h := (if_neg c153).symm.trans h
          refine xr_iff 67 (in_19 rfl) rfl c153 ?_
          refine xr_aload_n (in_19 rfl) rfl ?_
          refine xr_iload (in_19 rfl) rfl ?_
          refine xr_iload_n (in_19 rfl) rfl ?_
          refine xr_iconst_ _ (in_19 rfl) (show _ = (1 : Int32) by decide) ?_
          refine xr_iadd (in_19 rfl) ?_
          obtain ⟨v154, m155, e156, h⟩ := xc_m_e h
          refine xq_calla [xv_r 1, xv_i (m.1 3 a1.toNatClampNeg), xv_i (a2 + (1 : Int32))] [] [some (xv_r 1), some (xv_i (m.1 3 a1.toNatClampNeg)), some (xv_i (a2 + (1 : Int32))), none, none, none, none] (xk_V (in_19 rfl) (sh_1 n)) (cl_19 rfl) rfl rfl rfl rfl (ih e156) ?_
          refine xr_istore [some (xv_r 1), some (xv_i a1), some (xv_i a2), some (xv_i (m.1 2 a1.toNatClampNeg)), some (xv_i v154), some (xv_i (m.1 4 a1.toNatClampNeg)), none] (in_19 rfl) (nl_19 rfl) rfl ?_
          exact q122 v154 m155 h
      · replace h := (if_neg c108).symm.trans h
        refine xr_icf 26 (in_19 rfl) rfl c108 ?_
        refine xr_aload_n (in_19 rfl) rfl ?_
        refine xq_getr (in_19 rfl) (fo_19 rfl) (sh_1 n) rfl ?_
        refine xr_iload_n (in_19 rfl) rfl ?_
        obtain ⟨o158, h⟩ := xg_e h
        refine xq_iald (in_19 rfl) (sh_6 n) o158 ?_
        obtain ⟨rfl, rfl⟩ := Prod.mk.inj (Option.some.inj h)
        exact xr_iret (kd_19) (in_19 rfl) (Nat.le_refl _) (Nat.le_refl _) ⟨rfl, rfl⟩
    · replace h := (if_neg c106).symm.trans h
      refine xr_icf 9 (in_19 rfl) rfl c106 ?_
      refine xr_bipush_ _ (in_19 rfl) (show _ = (-2 : Int32) by decide) ?_
      obtain ⟨rfl, rfl⟩ := Prod.mk.inj (Option.some.inj h)
      exact xr_iret (kd_19) (in_19 rfl) (Nat.le_refl _) (Nat.le_refl _) ⟨rfl, rfl⟩
def mk_dual (F : Nat) (xt : Nat → Nat × (Nat → Int32)) (a1 : Int32) (m : xm_S) : Option (Int32 × xm_S) := if (bk_knows a1 m) = 0 then some ((-1 : Int32), m) else xc_m (bk_buildDual F xt 29 a1 (0 : Int32) m) fun v160 m161 => some (v160, m161)
theorem mk_dual_ok {xt : Nat → Nat × (Nat → Int32)} (n d : Nat) {F : Nat} {a1 : Int32} {m m' : xm_S} {r : Int32} (h : mk_dual F xt a1 m = some (r, m')) : xm_Run pg xt (d + 33) 18 0 0 (xQ_i (sh n) r m') 0 [some (xv_r 0), some (xv_i a1)] [] (xq_2 (sh n) m) 0 0 := by
  unfold mk_dual at h
  refine xr_aload_n (in_18 rfl) rfl ?_
  refine xq_getr (in_18 rfl) (fo_18 rfl) (sh_0 n) rfl ?_
  refine xr_iload_n (in_18 rfl) rfl ?_
  refine xq_calla [xv_r 1, xv_i a1] [] [some (xv_r 1), some (xv_i a1)] (xk_V (in_18 rfl) (sh_1 n)) (cl_18 rfl) rfl rfl rfl rfl (bk_knows_ok n (d + 32) rfl) ?_
  by_cases c159 : (bk_knows a1 m) = 0
  · replace h := (if_pos c159).symm.trans h
    refine xr_ift 23 (in_18 rfl) rfl c159 ?_
    refine xr_iconst_ _ (in_18 rfl) (show _ = (-1 : Int32) by decide) ?_
    obtain ⟨rfl, rfl⟩ := Prod.mk.inj (Option.some.inj h)
    exact xr_iret (kd_18) (in_18 rfl) (Nat.le_refl _) (Nat.le_refl _) ⟨rfl, rfl⟩
  · replace h := (if_neg c159).symm.trans h
    refine xr_iff 23 (in_18 rfl) rfl c159 ?_
    refine xr_aload_n (in_18 rfl) rfl ?_
    refine xq_getr (in_18 rfl) (fo_18 rfl) (sh_0 n) rfl ?_
    refine xr_iload_n (in_18 rfl) rfl ?_
    refine xr_iconst_ _ (in_18 rfl) (show _ = (0 : Int32) by decide) ?_
    obtain ⟨v160, m161, e162, h⟩ := xc_m_e h
    refine xq_calla [xv_r 1, xv_i a1, xv_i (0 : Int32)] [] [some (xv_r 1), some (xv_i a1), some (xv_i (0 : Int32)), none, none, none, none] (xk_V (in_18 rfl) (sh_1 n)) (cl_18 rfl) rfl rfl rfl rfl (bk_buildDual_ok n d 29 e162) ?_
    refine xr_goto 24 (in_18 rfl) rfl ?_
    obtain ⟨rfl, rfl⟩ := Prod.mk.inj (Option.some.inj h)
    exact xr_iret (kd_18) (in_18 rfl) (Nat.le_refl _) (Nat.le_refl _) ⟨rfl, rfl⟩
def mk_formulas (m : xm_S) : Int32 := m.1 1 5
theorem mk_formulas_ok {xt : Nat → Nat × (Nat → Int32)} (n d : Nat) {m : xm_S} {r : Int32} (h : mk_formulas  m = r) : xm_Run pg xt d 20 0 0 (xQ_i (sh n) r m) 0 [some (xv_r 0)] [] (xq_2 (sh n) m) 0 0 := by
  unfold mk_formulas at h
  refine xr_aload_n (in_20 rfl) rfl ?_
  refine xq_getr (in_20 rfl) (fo_20 rfl) (sh_0 n) rfl ?_
  refine xq_geti (in_20 rfl) (fo_20 rfl) (sh_1 n) rfl ?_
  subst h
  exact xr_iret (kd_20) (in_20 rfl) (Nat.le_refl _) (Nat.le_refl _) ⟨rfl, rfl⟩
def wd_write_l3 (F : Nat) (a170 : Int64) (a171 : Int32) (a172 : Int64) (a173 : Int32) (k : xm_S → Option (xm_S)) : Nat → Int32 → xm_S → Option (xm_S)
  | 0, _, _ => none
  | fu + 1, a174, m169 => if a171 ≤ a174 then k m169 else xg_n a174 16 (xs_m (xw_i m169 8 a174.toNatClampNeg (((a170 >>> (((4 : Int32) * a174).toInt64 &&& 63)).toInt32) &&& (15 : Int32))) fun m177 => wd_write_l3 F a170 a171 a172 a173 k fu (a174 + (1 : Int32)) m177)
theorem wd_write_l3_ok {xt : Nat → Nat × (Nat → Int32)} (n d : Nat) {F : Nat} {a170 : Int64} {a171 : Int32} {a172 : Int64} {a173 : Int32} {k : xm_S → Option (xm_S)} {m' : xm_S} 
    (hk : ∀ (m : xm_S), k m = some m' → xm_Run pg xt d 22 0 0 (xQ_v (sh n) m') 32 [some (xv_r 7), none, none, some (xv_i a171), some (xv_l a172), none, some (xv_i a173), none] [] (xq_2 (sh n) m) 0 0) :
    ∀ (fu : Nat) (a174 : Int32) (m169 : xm_S), wd_write_l3 F a170 a171 a172 a173 k fu a174 m169 = some m' → xm_Run pg xt d 22 0 0 (xQ_v (sh n) m') 3 [some (xv_r 7), some (xv_l a170), none, some (xv_i a171), some (xv_l a172), none, some (xv_i a173), some (xv_i a174)] [] (xq_2 (sh n) m169) 0 0 := by
  intro fu
  induction fu with
  | zero => intro a174 m169 h; cases h
  | succ fu ih =>
    intro a174 m169 h
    rw [wd_write_l3] at h
    refine xr_iload (in_22 rfl) rfl ?_
    refine xr_iload_n (in_22 rfl) rfl ?_
    by_cases c175 : a171 ≤ a174
    · replace h := (if_pos c175).symm.trans h
      refine xr_ict 32 (in_22 rfl) rfl c175 ?_
      refine xr_forget (loc' := [some (xv_r 7), none, none, some (xv_i a171), some (xv_l a172), none, some (xv_i a173), none]) (xl_s (xl_o (xl_o (xl_s (xl_s (xl_o (xl_s (xl_o xl_n)))))))) ?_
      exact hk m169 h
    · replace h := (if_neg c175).symm.trans h
      refine xr_icf 32 (in_22 rfl) rfl c175 ?_
      refine xr_aload_n (in_22 rfl) rfl ?_
      refine xq_getr (in_22 rfl) (fo_22 rfl) (sh_7 n) rfl ?_
      refine xr_iload (in_22 rfl) rfl ?_
      refine xr_lload_n (in_22 rfl) rfl ?_
      refine xr_iconst_ _ (in_22 rfl) (show _ = (4 : Int32) by decide) ?_
      refine xr_iload (in_22 rfl) rfl ?_
      refine xr_imul (in_22 rfl) ?_
      refine xr_lshr (in_22 rfl) ?_
      refine xr_l2i (in_22 rfl) ?_
      refine xr_bipush_ _ (in_22 rfl) (show _ = (15 : Int32) by decide) ?_
      refine xr_iand (in_22 rfl) ?_
      obtain ⟨o176, h⟩ := xg_e h
      refine xq_iast (in_22 rfl) (sh_8 n) o176 ?_
      obtain ⟨m177, e178, h⟩ := xs_e h
      rw [← e178]
      clear e178
      refine xr_iinc (a174 + (1 : Int32)) [some (xv_r 7), some (xv_l a170), none, some (xv_i a171), some (xv_l a172), none, some (xv_i a173), some (xv_i (a174 + (1 : Int32)))] (in_22 rfl) rfl (xi_1 _) (nl_22 rfl) rfl ?_
      refine xr_goto 3 (in_22 rfl) rfl ?_
      exact ih (a174 + (1 : Int32)) m177 h
def wd_write_l35 (F : Nat) (a181 : Int32) (a182 : Int64) (a183 : Int32) (k : xm_S → Option (xm_S)) : Nat → Int32 → xm_S → Option (xm_S)
  | 0, _, _ => none
  | fu + 1, a184, m180 => if a183 ≤ a184 then k m180 else xg_n (a181 + a184) 16 (xs_m (xw_i m180 8 (a181 + a184).toNatClampNeg (((a182 >>> (((4 : Int32) * a184).toInt64 &&& 63)).toInt32) &&& (15 : Int32))) fun m187 => wd_write_l35 F a181 a182 a183 k fu (a184 + (1 : Int32)) m187)
theorem wd_write_l35_ok {xt : Nat → Nat × (Nat → Int32)} (n d : Nat) {F : Nat} {a181 : Int32} {a182 : Int64} {a183 : Int32} {k : xm_S → Option (xm_S)} {m' : xm_S} 
    (hk : ∀ (m : xm_S), k m = some m' → xm_Run pg xt d 22 0 0 (xQ_v (sh n) m') 68 [some (xv_r 7), none, none, some (xv_i a181), none, none, some (xv_i a183), none] [] (xq_2 (sh n) m) 0 0) :
    ∀ (fu : Nat) (a184 : Int32) (m180 : xm_S), wd_write_l35 F a181 a182 a183 k fu a184 m180 = some m' → xm_Run pg xt d 22 0 0 (xQ_v (sh n) m') 35 [some (xv_r 7), none, none, some (xv_i a181), some (xv_l a182), none, some (xv_i a183), some (xv_i a184)] [] (xq_2 (sh n) m180) 0 0 := by
  intro fu
  induction fu with
  | zero => intro a184 m180 h; cases h
  | succ fu ih =>
    intro a184 m180 h
    rw [wd_write_l35] at h
    refine xr_iload (in_22 rfl) rfl ?_
    refine xr_iload (in_22 rfl) rfl ?_
    by_cases c185 : a183 ≤ a184
    · replace h := (if_pos c185).symm.trans h
      refine xr_ict 68 (in_22 rfl) rfl c185 ?_
      refine xr_forget (loc' := [some (xv_r 7), none, none, some (xv_i a181), none, none, some (xv_i a183), none]) (xl_s (xl_o (xl_o (xl_s (xl_o (xl_o (xl_s (xl_o xl_n)))))))) ?_
      exact hk m180 h
    · replace h := (if_neg c185).symm.trans h
      refine xr_icf 68 (in_22 rfl) rfl c185 ?_
      refine xr_aload_n (in_22 rfl) rfl ?_
      refine xq_getr (in_22 rfl) (fo_22 rfl) (sh_7 n) rfl ?_
      refine xr_iload_n (in_22 rfl) rfl ?_
      refine xr_iload (in_22 rfl) rfl ?_
      refine xr_iadd (in_22 rfl) ?_
      refine xr_lload (in_22 rfl) rfl ?_
      refine xr_iconst_ _ (in_22 rfl) (show _ = (4 : Int32) by decide) ?_
      refine xr_iload (in_22 rfl) rfl ?_
      refine xr_imul (in_22 rfl) ?_
      refine xr_lshr (in_22 rfl) ?_
      refine xr_l2i (in_22 rfl) ?_
      refine xr_bipush_ _ (in_22 rfl) (show _ = (15 : Int32) by decide) ?_
      refine xr_iand (in_22 rfl) ?_
      obtain ⟨o186, h⟩ := xg_e h
      refine xq_iast (in_22 rfl) (sh_8 n) o186 ?_
      obtain ⟨m187, e188, h⟩ := xs_e h
      rw [← e188]
      clear e188
      refine xr_iinc (a184 + (1 : Int32)) [some (xv_r 7), none, none, some (xv_i a181), some (xv_l a182), none, some (xv_i a183), some (xv_i (a184 + (1 : Int32)))] (in_22 rfl) rfl (xi_1 _) (nl_22 rfl) rfl ?_
      refine xr_goto 35 (in_22 rfl) rfl ?_
      exact ih (a184 + (1 : Int32)) m187 h
def wd_write (F : Nat) (a1 : Int64) (a2 : Int32) (a3 : Int64) (a4 : Int32) (m : xm_S) : Option (xm_S) := wd_write_l3 F a1 a2 a3 a4 (fun (m179 : xm_S) => wd_write_l35 F a2 a3 a4 (fun (m189 : xm_S) => xs_m (xw_i m189 7 3 (a2 + a4)) fun m190 => xs_m (xw_i m190 7 4 a2) fun m192 => some m192) F (0 : Int32) m179) F (0 : Int32) m
theorem wd_write_ok {xt : Nat → Nat × (Nat → Int32)} (n d : Nat) {F : Nat} {a1 : Int64} {a2 : Int32} {a3 : Int64} {a4 : Int32} {m m' : xm_S} (h : wd_write F a1 a2 a3 a4 m = some m') : xm_Run pg xt d 22 0 0 (xQ_v (sh n) m') 0 [some (xv_r 7), some (xv_l a1), none, some (xv_i a2), some (xv_l a3), none, some (xv_i a4), none] [] (xq_2 (sh n) m) 0 0 := by
  unfold wd_write at h
  refine xr_iconst_ _ (in_22 rfl) (show _ = (0 : Int32) by decide) ?_
  refine xr_istore [some (xv_r 7), some (xv_l a1), none, some (xv_i a2), some (xv_l a3), none, some (xv_i a4), some (xv_i (0 : Int32))] (in_22 rfl) (nl_22 rfl) rfl ?_
  refine wd_write_l3_ok n d (fun m179 h => ?_) F (0 : Int32) m h
  refine xr_iconst_ _ (in_22 rfl) (show _ = (0 : Int32) by decide) ?_
  refine xr_istore [some (xv_r 7), none, none, some (xv_i a2), some (xv_l a3), none, some (xv_i a4), some (xv_i (0 : Int32))] (in_22 rfl) (nl_22 rfl) rfl ?_
  refine wd_write_l35_ok n d (fun m189 h => ?_) F (0 : Int32) m179 h
  refine xr_aload_n (in_22 rfl) rfl ?_
  refine xr_iload_n (in_22 rfl) rfl ?_
  refine xr_iload (in_22 rfl) rfl ?_
  refine xr_iadd (in_22 rfl) ?_
  refine xq_put (in_22 rfl) (fo_22 rfl) (sh_7 n) rfl (Or.inl rfl) ?_
  obtain ⟨m190, e191, h⟩ := xs_e h
  rw [← e191]
  clear e191
  refine xr_aload_n (in_22 rfl) rfl ?_
  refine xr_iload_n (in_22 rfl) rfl ?_
  refine xq_put (in_22 rfl) (fo_22 rfl) (sh_7 n) rfl (Or.inl rfl) ?_
  obtain ⟨m192, e193, h⟩ := xs_e h
  rw [← e193]
  clear e193
  obtain rfl := Option.some.inj h
  exact xr_vret (kd_22) (in_22 rfl) (Nat.le_refl _) (Nat.le_refl _) ⟨rfl, rfl⟩
def bk_isPart (F : Nat) (a1 : Int32) (a2 : Int32) (m : xm_S) : Option (Int32 × xm_S) := xg_n a2 28 (if (((m.1 5 a2.toNatClampNeg) >>> (a1 &&& 31)) &&& (1 : Int32)) = 0 then some ((0 : Int32), m) else some ((1 : Int32), m))
theorem bk_isPart_ok {xt : Nat → Nat × (Nat → Int32)} (n d : Nat) {F : Nat} {a1 : Int32} {a2 : Int32} {m m' : xm_S} {r : Int32} (h : bk_isPart F a1 a2 m = some (r, m')) : xm_Run pg xt d 24 0 0 (xQ_i (sh n) r m') 0 [some (xv_r 1), some (xv_i a1), some (xv_i a2)] [] (xq_2 (sh n) m) 0 0 := by
  unfold bk_isPart at h
  refine xr_aload_n (in_24 rfl) rfl ?_
  refine xq_getr (in_24 rfl) (fo_24 rfl) (sh_1 n) rfl ?_
  refine xr_iload_n (in_24 rfl) rfl ?_
  obtain ⟨o207, h⟩ := xg_e h
  refine xq_iald (in_24 rfl) (sh_5 n) o207 ?_
  refine xr_iload_n (in_24 rfl) rfl ?_
  refine xr_ishr (in_24 rfl) ?_
  refine xr_iconst_ _ (in_24 rfl) (show _ = (1 : Int32) by decide) ?_
  refine xr_iand (in_24 rfl) ?_
  by_cases c208 : (((m.1 5 a2.toNatClampNeg) >>> (a1 &&& 31)) &&& (1 : Int32)) = 0
  · replace h := (if_pos c208).symm.trans h
    refine xr_ift 17 (in_24 rfl) rfl c208 ?_
    refine xr_iconst_ _ (in_24 rfl) (show _ = (0 : Int32) by decide) ?_
    obtain ⟨rfl, rfl⟩ := Prod.mk.inj (Option.some.inj h)
    exact xr_zret (kd_24) (in_24 rfl) (by decide) (Nat.le_refl _) (Nat.le_refl _) ⟨rfl, rfl⟩
  · replace h := (if_neg c208).symm.trans h
    refine xr_iff 17 (in_24 rfl) rfl c208 ?_
    refine xr_iconst_ _ (in_24 rfl) (show _ = (1 : Int32) by decide) ?_
    refine xr_goto 18 (in_24 rfl) rfl ?_
    obtain ⟨rfl, rfl⟩ := Prod.mk.inj (Option.some.inj h)
    exact xr_zret (kd_24) (in_24 rfl) (by decide) (Nat.le_refl _) (Nat.le_refl _) ⟨rfl, rfl⟩
def wd_everywhere (m : xm_S) : Int32 := ((1 : Int32) <<< ((m.1 7 3) &&& 31)) - (1 : Int32)
theorem wd_everywhere_ok {xt : Nat → Nat × (Nat → Int32)} (n d : Nat) {m : xm_S} {r : Int32} (h : wd_everywhere  m = r) : xm_Run pg xt d 26 0 0 (xQ_i (sh n) r m) 0 [some (xv_r 7)] [] (xq_2 (sh n) m) 0 0 := by
  unfold wd_everywhere at h
  refine xr_iconst_ _ (in_26 rfl) (show _ = (1 : Int32) by decide) ?_
  refine xr_aload_n (in_26 rfl) rfl ?_
  refine xq_geti (in_26 rfl) (fo_26 rfl) (sh_7 n) rfl ?_
  refine xr_ishl (in_26 rfl) ?_
  refine xr_iconst_ _ (in_26 rfl) (show _ = (1 : Int32) by decide) ?_
  refine xr_isub (in_26 rfl) ?_
  subst h
  exact xr_iret (kd_26) (in_26 rfl) (Nat.le_refl _) (Nat.le_refl _) ⟨rfl, rfl⟩
