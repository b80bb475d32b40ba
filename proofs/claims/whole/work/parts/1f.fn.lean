/-! Methods as functions, and that they run so (written by program). -/
def wi_takeMachine_l30 (F : Nat) (a1046 : Int32) (a1047 : Int32) (k : xm_S → Option (xm_S)) : Nat → Int32 → xm_S → Option (xm_S)
  | 0, _, _ => none
  | fu + 1, a1048, m1045 => if (4 : Int32) ≤ a1048 then k m1045 else xc_m (gm_safeOutput F a1047 a1048 m1045) fun v1050 m1051 => xc_v (wi_addStep F a1046 a1048 a1048 v1050 m1051) fun m1055 => wi_takeMachine_l30 F a1046 a1047 k fu (a1048 + (1 : Int32)) m1055
theorem wi_takeMachine_l30_ok {xt : Nat → Nat × (Nat → Int32)} (n d : Nat) {F : Nat} {a1046 : Int32} {a1047 : Int32} {k : xm_S → Option (xm_S)} {m' : xm_S} 
    (hk : ∀ (m : xm_S), k m = some m' → xm_Run pg xt (d + 3) 69 0 0 (xQ_v (sh n) m') 57 [some (xv_r 30), some (xv_i a1046), none, none] [] (xq_2 (sh n) m) 0 0) :
    ∀ (fu : Nat) (a1048 : Int32) (m1045 : xm_S), wi_takeMachine_l30 F a1046 a1047 k fu a1048 m1045 = some m' → xm_Run pg xt (d + 3) 69 0 0 (xQ_v (sh n) m') 30 [some (xv_r 30), some (xv_i a1046), some (xv_i a1047), some (xv_i a1048)] [] (xq_2 (sh n) m1045) 0 0 := by
  intro fu
  induction fu with
  | zero => intro a1048 m1045 h; cases h
  | succ fu ih =>
    intro a1048 m1045 h
    rw [wi_takeMachine_l30] at h
    refine xr_iload_n (in_69 rfl) rfl ?_
    refine xr_iconst_ _ (in_69 rfl) (show _ = (4 : Int32) by decide) ?_
    by_cases c1049 : (4 : Int32) ≤ a1048
    · replace h := (if_pos c1049).symm.trans h
      refine xr_ict 57 (in_69 rfl) rfl c1049 ?_
      refine xr_forget (loc' := [some (xv_r 30), some (xv_i a1046), none, none]) (xl_s (xl_s (xl_o (xl_o xl_n)))) ?_
      exact hk m1045 h
    · replace h := (if_neg c1049).symm.trans h
      refine xr_icf 57 (in_69 rfl) rfl c1049 ?_
      refine xr_aload_n (in_69 rfl) rfl ?_
      refine xr_iload_n (in_69 rfl) rfl ?_
      refine xr_iload_n (in_69 rfl) rfl ?_
      refine xr_iload_n (in_69 rfl) rfl ?_
      refine xr_aload_n (in_69 rfl) rfl ?_
      refine xq_getr (in_69 rfl) (fo_69 rfl) (sh_30 n) rfl ?_
      refine xr_iload_n (in_69 rfl) rfl ?_
      refine xr_iload_n (in_69 rfl) rfl ?_
      obtain ⟨v1050, m1051, e1052, h⟩ := xc_m_e h
      refine xq_calla [xv_r 26, xv_i a1047, xv_i a1048] [xv_i a1048, xv_i a1048, xv_i a1046, xv_r 30] [some (xv_r 26), some (xv_i a1047), some (xv_i a1048), none] (xk_V (in_69 rfl) (sh_26 n)) (cl_69 rfl) rfl rfl rfl rfl (gm_safeOutput_ok n d e1052) ?_
      obtain ⟨m1055, e1056, h⟩ := xc_v_e h
      refine xq_callv [xv_r 30, xv_i a1046, xv_i a1048, xv_i a1048, xv_i v1050] [] [some (xv_r 30), some (xv_i a1046), some (xv_i a1048), some (xv_i a1048), some (xv_i v1050), none] (xk_V (in_69 rfl) (sh_30 n)) (cl_69 rfl) rfl rfl rfl rfl (wi_addStep_ok n (d + 1) e1056) ?_
      refine xr_iinc (a1048 + (1 : Int32)) [some (xv_r 30), some (xv_i a1046), some (xv_i a1047), some (xv_i (a1048 + (1 : Int32)))] (in_69 rfl) rfl (xi_1 _) (nl_69 rfl) rfl ?_
      refine xr_goto 30 (in_69 rfl) rfl ?_
      exact ih (a1048 + (1 : Int32)) m1055 h
def wi_takeMachine_l7 (F : Nat) (k : xm_S → Option (xm_S)) : Nat → Int32 → xm_S → Option (xm_S)
  | 0, _, _ => none
  | fu + 1, a1041, m1040 => if (m1040.1 30 2) ≤ a1041 then k m1040 else if (100 : Int32) ≤ a1041 then k m1040 else xg_n a1041 100 (wi_takeMachine_l30 F a1041 (m1040.1 31 a1041.toNatClampNeg) (fun (m1058 : xm_S) => wi_takeMachine_l7 F k fu (a1041 + (1 : Int32)) m1058) F (0 : Int32) m1040)
theorem wi_takeMachine_l7_ok {xt : Nat → Nat × (Nat → Int32)} (n d : Nat) {F : Nat} {k : xm_S → Option (xm_S)} {m' : xm_S} 
    (hk : ∀ (m : xm_S), k m = some m' → xm_Run pg xt (d + 3) 69 0 0 (xQ_v (sh n) m') 63 [none, none, none, none] [] (xq_2 (sh n) m) 0 0) :
    ∀ (fu : Nat) (a1041 : Int32) (m1040 : xm_S), wi_takeMachine_l7 F k fu a1041 m1040 = some m' → xm_Run pg xt (d + 3) 69 0 0 (xQ_v (sh n) m') 7 [some (xv_r 30), some (xv_i a1041), none, none] [] (xq_2 (sh n) m1040) 0 0 := by
  intro fu
  induction fu with
  | zero => intro a1041 m1040 h; cases h
  | succ fu ih =>
    intro a1041 m1040 h
    rw [wi_takeMachine_l7] at h
    refine xr_iload_n (in_69 rfl) rfl ?_
    refine xr_aload_n (in_69 rfl) rfl ?_
    refine xq_geti (in_69 rfl) (fo_69 rfl) (sh_30 n) rfl ?_
    by_cases c1042 : (m1040.1 30 2) ≤ a1041
    · replace h := (if_pos c1042).symm.trans h
      refine xr_ict 63 (in_69 rfl) rfl c1042 ?_
      refine xr_forget (loc' := [none, none, none, none]) (xl_o (xl_o (xl_o (xl_o xl_n)))) ?_
      exact hk m1040 h
    · replace h := (if_neg c1042).symm.trans h
      refine xr_icf 63 (in_69 rfl) rfl c1042 ?_
      refine xr_iload_n (in_69 rfl) rfl ?_
      refine xr_bipush_ _ (in_69 rfl) (show _ = (100 : Int32) by decide) ?_
      by_cases c1043 : (100 : Int32) ≤ a1041
      · replace h := (if_pos c1043).symm.trans h
        refine xr_ict 63 (in_69 rfl) rfl c1043 ?_
        refine xr_forget (loc' := [none, none, none, none]) (xl_o (xl_o (xl_o (xl_o xl_n)))) ?_
        exact hk m1040 h
      · replace h := (if_neg c1043).symm.trans h
        refine xr_icf 63 (in_69 rfl) rfl c1043 ?_
        refine xr_aload_n (in_69 rfl) rfl ?_
        refine xq_getr (in_69 rfl) (fo_69 rfl) (sh_30 n) rfl ?_
        refine xr_iload_n (in_69 rfl) rfl ?_
        obtain ⟨o1044, h⟩ := xg_e h
        refine xq_iald (in_69 rfl) (sh_31 n) o1044 ?_
        refine xr_istore_n [some (xv_r 30), some (xv_i a1041), some (xv_i (m1040.1 31 a1041.toNatClampNeg)), none] (in_69 rfl) (nl_69 rfl) rfl ?_
        refine xr_iconst_ _ (in_69 rfl) (show _ = (0 : Int32) by decide) ?_
        refine xr_istore_n [some (xv_r 30), some (xv_i a1041), some (xv_i (m1040.1 31 a1041.toNatClampNeg)), some (xv_i (0 : Int32))] (in_69 rfl) (nl_69 rfl) rfl ?_
        refine wi_takeMachine_l30_ok n d (fun m1058 h => ?_) F (0 : Int32) m1040 h
        refine xr_iinc (a1041 + (1 : Int32)) [some (xv_r 30), some (xv_i (a1041 + (1 : Int32))), none, none] (in_69 rfl) rfl (xi_1 _) (nl_69 rfl) rfl ?_
        refine xr_goto 7 (in_69 rfl) rfl ?_
        exact ih (a1041 + (1 : Int32)) m1058 h
def wi_takeMachine (F : Nat) (m : xm_S) : Option (xm_S) := xc_v (wi_begin F (1 : Int32) m) fun m1037 => wi_takeMachine_l7 F (fun (m1059 : xm_S) => some m1059) F (0 : Int32) m1037
theorem wi_takeMachine_ok {xt : Nat → Nat × (Nat → Int32)} (n d : Nat) {F : Nat} {m m' : xm_S} (h : wi_takeMachine F m = some m') : xm_Run pg xt (d + 3) 69 0 0 (xQ_v (sh n) m') 0 [some (xv_r 30), none, none, none] [] (xq_2 (sh n) m) 0 0 := by
  unfold wi_takeMachine at h
  refine xr_aload_n (in_69 rfl) rfl ?_
  refine xr_iconst_ _ (in_69 rfl) (show _ = (1 : Int32) by decide) ?_
  obtain ⟨m1037, e1038, h⟩ := xc_v_e h
  refine xq_callv [xv_r 30, xv_i (1 : Int32)] [] [some (xv_r 30), some (xv_i (1 : Int32))] (xk_V (in_69 rfl) (sh_30 n)) (cl_69 rfl) rfl rfl rfl rfl (wi_begin_ok n (d + 1) e1038) ?_
  refine xr_iconst_ _ (in_69 rfl) (show _ = (0 : Int32) by decide) ?_
  refine xr_istore_n [some (xv_r 30), some (xv_i (0 : Int32)), none, none] (in_69 rfl) (nl_69 rfl) rfl ?_
  refine wi_takeMachine_l7_ok n d (fun m1059 h => ?_) F (0 : Int32) m1037 h
  obtain rfl := Option.some.inj h
  exact xr_vret (kd_69) (in_69 rfl) (Nat.le_refl _) (Nat.le_refl _) ⟨rfl, rfl⟩
def mk_solve (F : Nat) (xt : Nat → Nat × (Nat → Int32)) (n : Nat) (a1 : Int32) (a2 : Int32) (m : xm_S) : Option (Int32 × Nat × xm_S) := if (bk_knows a1 m) = 0 then some ((-1 : Int32), n, m) else if a2 < 0 then some ((-1 : Int32), n, m) else if a2 ≤ (3 : Int32) then xc_v (wi_forget F m) fun m715 => xc_m (bk_buildDual F xt 29 a1 (0 : Int32) m715) fun v718 m719 => if v718 = (-2 : Int32) then some ((-2 : Int32), n, m719) else xc_a n (au_build F n v718 m719) fun v723 n726 m724 => if v723 = 0 then some ((-2 : Int32), n726, m724) else xc_m (gm_explore F a2 m724) fun v826 m827 => if v826 = 0 then some ((-2 : Int32), n726, m827) else xc_m (gm_isWonBy F (1 : Int32) m827) fun v927 m928 => if v927 = 0 then xc_a n726 (au_build F n726 a1 m928) fun v932 n935 m933 => if v932 = 0 then some ((-2 : Int32), n935, m933) else xc_m (gm_explore F a2 m933) fun v938 m939 => if v938 = 0 then some ((-2 : Int32), n935, m939) else xc_m (gm_isWonBy F (2 : Int32) m939) fun v943 m944 => if v943 = 0 then some ((0 : Int32), n935, m944) else xc_v (wi_takeOpponent F m944) fun m1033 => some ((2 : Int32), n935, m1033) else xc_v (wi_takeMachine F m928) fun m1061 => some ((1 : Int32), n726, m1061) else some ((-1 : Int32), n, m)
theorem mk_solve_ok {xt : Nat → Nat × (Nat → Int32)} (n d : Nat) {F : Nat} {a1 : Int32} {a2 : Int32} {m m' : xm_S} {n' C0 S0 nc ns : Nat} {r : Int32} (hnc : nc + n' ≤ C0 + n) (hns : ns + xk_s n' ≤ S0 + xk_s n) (h : mk_solve F xt n a1 a2 m = some (r, n', m')) : xm_Run pg xt (d + 33) 54 C0 S0 (xQ_i (sh n') r m') 0 [some (xv_r 0), some (xv_i a1), some (xv_i a2), none] [] (xq_2 (sh n) m) nc ns := by
  unfold mk_solve at h
  refine xr_aload_n (in_54 rfl) rfl ?_
  refine xq_getr (in_54 rfl) (fo_54 rfl) (sh_0 n) rfl ?_
  refine xr_iload_n (in_54 rfl) rfl ?_
  refine xq_calla [xv_r 1, xv_i a1] [] [some (xv_r 1), some (xv_i a1)] (xk_V (in_54 rfl) (sh_1 n)) (cl_54 rfl) rfl rfl rfl rfl (bk_knows_ok n (d + 32) rfl) ?_
  by_cases c703 : (bk_knows a1 m) = 0
  · replace h := (if_pos c703).symm.trans h
    refine xr_ift 20 (in_54 rfl) rfl c703 ?_
    refine xr_iconst_ _ (in_54 rfl) (show _ = (-1 : Int32) by decide) ?_
    obtain ⟨rfl, h9⟩ := Prod.mk.inj (Option.some.inj h)
    obtain ⟨rfl, rfl⟩ := Prod.mk.inj h9
    exact xr_iret (kd_54) (in_54 rfl) (by omega) (by omega) ⟨rfl, rfl⟩
  · replace h := (if_neg c703).symm.trans h
    refine xr_iff 20 (in_54 rfl) rfl c703 ?_
    refine xr_iload_n (in_54 rfl) rfl ?_
    by_cases c704 : a2 < 0
    · replace h := (if_pos c704).symm.trans h
      refine xr_ift 20 (in_54 rfl) rfl c704 ?_
      refine xr_iconst_ _ (in_54 rfl) (show _ = (-1 : Int32) by decide) ?_
      obtain ⟨rfl, h9⟩ := Prod.mk.inj (Option.some.inj h)
      obtain ⟨rfl, rfl⟩ := Prod.mk.inj h9
      exact xr_iret (kd_54) (in_54 rfl) (by omega) (by omega) ⟨rfl, rfl⟩
    · replace h := (if_neg c704).symm.trans h
      refine xr_iff 20 (in_54 rfl) rfl c704 ?_
      refine xr_iload_n (in_54 rfl) rfl ?_
      refine xr_iconst_ _ (in_54 rfl) (show _ = (3 : Int32) by decide) ?_
      by_cases c705 : a2 ≤ (3 : Int32)
      · replace h := (if_pos c705).symm.trans h
        refine xr_ict 22 (in_54 rfl) rfl c705 ?_
        refine xr_aload_n (in_54 rfl) rfl ?_
        refine xq_getr (in_54 rfl) (fo_54 rfl) (sh_0 n) rfl ?_
        obtain ⟨m715, e716, h⟩ := xc_v_e h
        refine xq_callv [xv_r 30] [] [some (xv_r 30)] (xk_V (in_54 rfl) (sh_30 n)) (cl_54 rfl) rfl rfl rfl rfl (wi_forget_ok n (d + 32) e716) ?_
        refine xr_aload_n (in_54 rfl) rfl ?_
        refine xq_getr (in_54 rfl) (fo_54 rfl) (sh_0 n) rfl ?_
        refine xr_iload_n (in_54 rfl) rfl ?_
        refine xr_iconst_ _ (in_54 rfl) (show _ = (0 : Int32) by decide) ?_
        obtain ⟨v718, m719, e720, h⟩ := xc_m_e h
        refine xq_calla [xv_r 1, xv_i a1, xv_i (0 : Int32)] [] [some (xv_r 1), some (xv_i a1), some (xv_i (0 : Int32)), none, none, none, none] (xk_V (in_54 rfl) (sh_1 n)) (cl_54 rfl) rfl rfl rfl rfl (bk_buildDual_ok n d 29 e720) ?_
        refine xr_istore_n [some (xv_r 0), some (xv_i a1), some (xv_i a2), some (xv_i v718)] (in_54 rfl) (nl_54 rfl) rfl ?_
        refine xr_iload_n (in_54 rfl) rfl ?_
        refine xr_bipush_ _ (in_54 rfl) (show _ = (-2 : Int32) by decide) ?_
        by_cases c722 : v718 = (-2 : Int32)
        · replace h := (if_pos c722).symm.trans h
          refine xr_ict 67 (in_54 rfl) rfl c722 ?_
          refine xr_bipush_ _ (in_54 rfl) (show _ = (-2 : Int32) by decide) ?_
          obtain ⟨rfl, h9⟩ := Prod.mk.inj (Option.some.inj h)
          obtain ⟨rfl, rfl⟩ := Prod.mk.inj h9
          exact xr_iret (kd_54) (in_54 rfl) (by omega) (by omega) ⟨rfl, rfl⟩
        · replace h := (if_neg c722).symm.trans h
          refine xr_icf 67 (in_54 rfl) rfl c722 ?_
          refine xr_aload_n (in_54 rfl) rfl ?_
          refine xq_getr (in_54 rfl) (fo_54 rfl) (sh_0 n) rfl ?_
          refine xr_iload_n (in_54 rfl) rfl ?_
          obtain ⟨v723, n726, m724, e725, l727, h⟩ := xc_a_e h
          have l727c := xk_mono l727
          refine xq_callan (c1 := n726 - n) (s1 := xk_s n726 - xk_s n) [xv_r 20, xv_i v718] [] [some (xv_r 20), some (xv_i v718), none, none] (xk_V (in_54 rfl) (sh_20 n)) (cl_54 rfl) rfl rfl rfl rfl (au_build_ok n (d + 27) (by omega) (by omega) e725) ?_
          by_cases c728 : v723 = 0
          · replace h := (if_pos c728).symm.trans h
            refine xr_ift 67 (in_54 rfl) rfl c728 ?_
            refine xr_bipush_ _ (in_54 rfl) (show _ = (-2 : Int32) by decide) ?_
            obtain ⟨rfl, h9⟩ := Prod.mk.inj (Option.some.inj h)
            obtain ⟨rfl, rfl⟩ := Prod.mk.inj h9
            exact xr_iret (kd_54) (in_54 rfl) (by omega) (by omega) ⟨rfl, rfl⟩
          · replace h := (if_neg c728).symm.trans h
            refine xr_iff 67 (in_54 rfl) rfl c728 ?_
            refine xr_aload_n (in_54 rfl) rfl ?_
            refine xq_getr (in_54 rfl) (fo_54 rfl) (sh_0 n726) rfl ?_
            refine xr_iload_n (in_54 rfl) rfl ?_
            obtain ⟨v826, m827, e828, h⟩ := xc_m_e h
            refine xq_calla [xv_r 26, xv_i a2] [] [some (xv_r 26), some (xv_i a2), none, none, none, none, none] (xk_V (in_54 rfl) (sh_26 n726)) (cl_54 rfl) rfl rfl rfl rfl (gm_explore_ok n726 (d + 28) e828) ?_
            by_cases c830 : v826 = 0
            · replace h := (if_pos c830).symm.trans h
              refine xr_iff 70 (in_54 rfl) rfl (fun q => q c830) ?_
              refine xr_bipush_ _ (in_54 rfl) (show _ = (-2 : Int32) by decide) ?_
              obtain ⟨rfl, h9⟩ := Prod.mk.inj (Option.some.inj h)
              obtain ⟨rfl, rfl⟩ := Prod.mk.inj h9
              exact xr_iret (kd_54) (in_54 rfl) (by omega) (by omega) ⟨rfl, rfl⟩
            · replace h := (if_neg c830).symm.trans h
              refine xr_ift 70 (in_54 rfl) rfl c830 ?_
              refine xr_aload_n (in_54 rfl) rfl ?_
              refine xq_getr (in_54 rfl) (fo_54 rfl) (sh_0 n726) rfl ?_
              refine xr_iconst_ _ (in_54 rfl) (show _ = (1 : Int32) by decide) ?_
              obtain ⟨v927, m928, e929, h⟩ := xc_m_e h
              refine xq_calla [xv_r 26, xv_i (1 : Int32)] [] [some (xv_r 26), some (xv_i (1 : Int32)), none, none] (xk_V (in_54 rfl) (sh_26 n726)) (cl_54 rfl) rfl rfl rfl rfl (gm_isWonBy_ok n726 (d + 27) e929) ?_
              by_cases c931 : v927 = 0
              · replace h := (if_pos c931).symm.trans h
                refine xr_ift 90 (in_54 rfl) rfl c931 ?_
                refine xr_aload_n (in_54 rfl) rfl ?_
                refine xq_getr (in_54 rfl) (fo_54 rfl) (sh_0 n726) rfl ?_
                refine xr_iload_n (in_54 rfl) rfl ?_
                obtain ⟨v932, n935, m933, e934, l936, h⟩ := xc_a_e h
                have l936c := xk_mono l936
                refine xq_callan (c1 := n935 - n726) (s1 := xk_s n935 - xk_s n726) [xv_r 20, xv_i a1] [] [some (xv_r 20), some (xv_i a1), none, none] (xk_V (in_54 rfl) (sh_20 n726)) (cl_54 rfl) rfl rfl rfl rfl (au_build_ok n726 (d + 27) (by omega) (by omega) e934) ?_
                by_cases c937 : v932 = 0
                · replace h := (if_pos c937).symm.trans h
                  refine xr_ift 112 (in_54 rfl) rfl c937 ?_
                  refine xr_bipush_ _ (in_54 rfl) (show _ = (-2 : Int32) by decide) ?_
                  obtain ⟨rfl, h9⟩ := Prod.mk.inj (Option.some.inj h)
                  obtain ⟨rfl, rfl⟩ := Prod.mk.inj h9
                  exact xr_iret (kd_54) (in_54 rfl) (by omega) (by omega) ⟨rfl, rfl⟩
                · replace h := (if_neg c937).symm.trans h
                  refine xr_iff 112 (in_54 rfl) rfl c937 ?_
                  refine xr_aload_n (in_54 rfl) rfl ?_
                  refine xq_getr (in_54 rfl) (fo_54 rfl) (sh_0 n935) rfl ?_
                  refine xr_iload_n (in_54 rfl) rfl ?_
                  obtain ⟨v938, m939, e940, h⟩ := xc_m_e h
                  refine xq_calla [xv_r 26, xv_i a2] [] [some (xv_r 26), some (xv_i a2), none, none, none, none, none] (xk_V (in_54 rfl) (sh_26 n935)) (cl_54 rfl) rfl rfl rfl rfl (gm_explore_ok n935 (d + 28) e940) ?_
                  by_cases c942 : v938 = 0
                  · replace h := (if_pos c942).symm.trans h
                    refine xr_iff 115 (in_54 rfl) rfl (fun q => q c942) ?_
                    refine xr_bipush_ _ (in_54 rfl) (show _ = (-2 : Int32) by decide) ?_
                    obtain ⟨rfl, h9⟩ := Prod.mk.inj (Option.some.inj h)
                    obtain ⟨rfl, rfl⟩ := Prod.mk.inj h9
                    exact xr_iret (kd_54) (in_54 rfl) (by omega) (by omega) ⟨rfl, rfl⟩
                  · replace h := (if_neg c942).symm.trans h
                    refine xr_ift 115 (in_54 rfl) rfl c942 ?_
                    refine xr_aload_n (in_54 rfl) rfl ?_
                    refine xq_getr (in_54 rfl) (fo_54 rfl) (sh_0 n935) rfl ?_
                    refine xr_iconst_ _ (in_54 rfl) (show _ = (2 : Int32) by decide) ?_
                    obtain ⟨v943, m944, e945, h⟩ := xc_m_e h
                    refine xq_calla [xv_r 26, xv_i (2 : Int32)] [] [some (xv_r 26), some (xv_i (2 : Int32)), none, none] (xk_V (in_54 rfl) (sh_26 n935)) (cl_54 rfl) rfl rfl rfl rfl (gm_isWonBy_ok n935 (d + 27) e945) ?_
                    by_cases c947 : v943 = 0
                    · replace h := (if_pos c947).symm.trans h
                      refine xr_ift 135 (in_54 rfl) rfl c947 ?_
                      refine xr_iconst_ _ (in_54 rfl) (show _ = (0 : Int32) by decide) ?_
                      obtain ⟨rfl, h9⟩ := Prod.mk.inj (Option.some.inj h)
                      obtain ⟨rfl, rfl⟩ := Prod.mk.inj h9
                      exact xr_iret (kd_54) (in_54 rfl) (by omega) (by omega) ⟨rfl, rfl⟩
                    · replace h := (if_neg c947).symm.trans h
                      refine xr_iff 135 (in_54 rfl) rfl c947 ?_
                      refine xr_aload_n (in_54 rfl) rfl ?_
                      refine xq_getr (in_54 rfl) (fo_54 rfl) (sh_0 n935) rfl ?_
                      obtain ⟨m1033, e1034, h⟩ := xc_v_e h
                      refine xq_callv [xv_r 30] [] [some (xv_r 30), none, none, none] (xk_V (in_54 rfl) (sh_30 n935)) (cl_54 rfl) rfl rfl rfl rfl (wi_takeOpponent_ok n935 (d + 29) e1034) ?_
                      refine xr_iconst_ _ (in_54 rfl) (show _ = (2 : Int32) by decide) ?_
                      obtain ⟨rfl, h9⟩ := Prod.mk.inj (Option.some.inj h)
                      obtain ⟨rfl, rfl⟩ := Prod.mk.inj h9
                      exact xr_iret (kd_54) (in_54 rfl) (by omega) (by omega) ⟨rfl, rfl⟩
              · replace h := (if_neg c931).symm.trans h
                refine xr_iff 90 (in_54 rfl) rfl c931 ?_
                refine xr_aload_n (in_54 rfl) rfl ?_
                refine xq_getr (in_54 rfl) (fo_54 rfl) (sh_0 n726) rfl ?_
                obtain ⟨m1061, e1062, h⟩ := xc_v_e h
                refine xq_callv [xv_r 30] [] [some (xv_r 30), none, none, none] (xk_V (in_54 rfl) (sh_30 n726)) (cl_54 rfl) rfl rfl rfl rfl (wi_takeMachine_ok n726 (d + 29) e1062) ?_
                refine xr_iconst_ _ (in_54 rfl) (show _ = (1 : Int32) by decide) ?_
                obtain ⟨rfl, h9⟩ := Prod.mk.inj (Option.some.inj h)
                obtain ⟨rfl, rfl⟩ := Prod.mk.inj h9
                exact xr_iret (kd_54) (in_54 rfl) (by omega) (by omega) ⟨rfl, rfl⟩
      · replace h := (if_neg c705).symm.trans h
        refine xr_icf 22 (in_54 rfl) rfl c705 ?_
        refine xr_iconst_ _ (in_54 rfl) (show _ = (-1 : Int32) by decide) ?_
        obtain ⟨rfl, h9⟩ := Prod.mk.inj (Option.some.inj h)
        obtain ⟨rfl, rfl⟩ := Prod.mk.inj h9
        exact xr_iret (kd_54) (in_54 rfl) (by omega) (by omega) ⟨rfl, rfl⟩
def mk_size (a1 : Int32) (m : xm_S) : Int32 := if a1 = (0 : Int32) then m.1 30 2 else if a1 = (1 : Int32) then m.1 30 3 else if a1 = (2 : Int32) then m.1 30 4 else (-1 : Int32)
theorem mk_size_ok {xt : Nat → Nat × (Nat → Int32)} (n d : Nat) {a1 : Int32} {m : xm_S} {r : Int32} (h : mk_size a1 m = r) : xm_Run pg xt d 74 0 0 (xQ_i (sh n) r m) 0 [some (xv_r 0), some (xv_i a1)] [] (xq_2 (sh n) m) 0 0 := by
  unfold mk_size at h
  refine xr_iload_n (in_74 rfl) rfl ?_
  by_cases c1064 : a1 = (0 : Int32)
  · replace h := (if_pos c1064).symm.trans h
    refine xr_swi 28 (in_74 rfl) (by rw [c1064]; decide) (by rw [c1064]; decide) (by rw [c1064]; rfl) rfl ?_
    refine xr_aload_n (in_74 rfl) rfl ?_
    refine xq_getr (in_74 rfl) (fo_74 rfl) (sh_0 n) rfl ?_
    refine xq_geti (in_74 rfl) (fo_74 rfl) (sh_30 n) rfl ?_
    subst h
    exact xr_iret (kd_74) (in_74 rfl) (Nat.le_refl _) (Nat.le_refl _) ⟨rfl, rfl⟩
  replace h := (if_neg c1064).symm.trans h
  by_cases c1065 : a1 = (1 : Int32)
  · replace h := (if_pos c1065).symm.trans h
    refine xr_swi 36 (in_74 rfl) (by rw [c1065]; decide) (by rw [c1065]; decide) (by rw [c1065]; rfl) rfl ?_
    refine xr_aload_n (in_74 rfl) rfl ?_
    refine xq_getr (in_74 rfl) (fo_74 rfl) (sh_0 n) rfl ?_
    refine xq_geti (in_74 rfl) (fo_74 rfl) (sh_30 n) rfl ?_
    subst h
    exact xr_iret (kd_74) (in_74 rfl) (Nat.le_refl _) (Nat.le_refl _) ⟨rfl, rfl⟩
  replace h := (if_neg c1065).symm.trans h
  by_cases c1066 : a1 = (2 : Int32)
  · replace h := (if_pos c1066).symm.trans h
    refine xr_swi 44 (in_74 rfl) (by rw [c1066]; decide) (by rw [c1066]; decide) (by rw [c1066]; rfl) rfl ?_
    refine xr_aload_n (in_74 rfl) rfl ?_
    refine xq_getr (in_74 rfl) (fo_74 rfl) (sh_0 n) rfl ?_
    refine xq_geti (in_74 rfl) (fo_74 rfl) (sh_30 n) rfl ?_
    subst h
    exact xr_iret (kd_74) (in_74 rfl) (Nat.le_refl _) (Nat.le_refl _) ⟨rfl, rfl⟩
  replace h := (if_neg c1066).symm.trans h
  have c1064z : a1.toInt ≠ 0 := fun q => c1064 (Int32.toInt_inj.mp (q.trans (by decide)))
  have c1065z : a1.toInt ≠ 1 := fun q => c1065 (Int32.toInt_inj.mp (q.trans (by decide)))
  have c1066z : a1.toInt ≠ 2 := fun q => c1066 (Int32.toInt_inj.mp (q.trans (by decide)))
  refine xr_swo 52 (in_74 rfl) (by omega) rfl ?_
  refine xr_iconst_ _ (in_74 rfl) (show _ = (-1 : Int32) by decide) ?_
  subst h
  exact xr_iret (kd_74) (in_74 rfl) (Nat.le_refl _) (Nat.le_refl _) ⟨rfl, rfl⟩
def wi_knows (a1 : Int32) (m : xm_S) : Int32 := if a1 < 0 then (0 : Int32) else if (m.1 30 2) ≤ a1 then (0 : Int32) else (1 : Int32)
theorem wi_knows_b {a1 : Int32} {m : xm_S} : wi_knows a1 m = 0 ∨ wi_knows a1 m = 1 := by
  unfold wi_knows
  repeat' split
  all_goals first | decide
theorem wi_knows_ok {xt : Nat → Nat × (Nat → Int32)} (n d : Nat) {a1 : Int32} {m : xm_S} {r : Int32} (h : wi_knows a1 m = r) : xm_Run pg xt d 76 0 0 (xQ_i (sh n) r m) 0 [some (xv_r 30), some (xv_i a1)] [] (xq_2 (sh n) m) 0 0 := by
  unfold wi_knows at h
  refine xr_iload_n (in_76 rfl) rfl ?_
  by_cases c1067 : a1 < 0
  · replace h := (if_pos c1067).symm.trans h
    refine xr_ift 16 (in_76 rfl) rfl c1067 ?_
    refine xr_iconst_ _ (in_76 rfl) (show _ = (0 : Int32) by decide) ?_
    subst h
    exact xr_zret (kd_76) (in_76 rfl) (by decide) (Nat.le_refl _) (Nat.le_refl _) ⟨rfl, rfl⟩
  · replace h := (if_neg c1067).symm.trans h
    refine xr_iff 16 (in_76 rfl) rfl c1067 ?_
    refine xr_iload_n (in_76 rfl) rfl ?_
    refine xr_aload_n (in_76 rfl) rfl ?_
    refine xq_geti (in_76 rfl) (fo_76 rfl) (sh_30 n) rfl ?_
    by_cases c1068 : (m.1 30 2) ≤ a1
    · replace h := (if_pos c1068).symm.trans h
      refine xr_ict 16 (in_76 rfl) rfl c1068 ?_
      refine xr_iconst_ _ (in_76 rfl) (show _ = (0 : Int32) by decide) ?_
      subst h
      exact xr_zret (kd_76) (in_76 rfl) (by decide) (Nat.le_refl _) (Nat.le_refl _) ⟨rfl, rfl⟩
    · replace h := (if_neg c1068).symm.trans h
      refine xr_icf 16 (in_76 rfl) rfl c1068 ?_
      refine xr_iconst_ _ (in_76 rfl) (show _ = (1 : Int32) by decide) ?_
      refine xr_goto 17 (in_76 rfl) rfl ?_
      subst h
      exact xr_zret (kd_76) (in_76 rfl) (by decide) (Nat.le_refl _) (Nat.le_refl _) ⟨rfl, rfl⟩
def mk_isSignal (a0 : Int32) : Int32 := if a0 < 0 then (0 : Int32) else if (4 : Int32) ≤ a0 then (0 : Int32) else (1 : Int32)
theorem mk_isSignal_b {a0 : Int32} : mk_isSignal a0 = 0 ∨ mk_isSignal a0 = 1 := by
  unfold mk_isSignal
  repeat' split
  all_goals first | decide
theorem mk_isSignal_ok {xt : Nat → Nat × (Nat → Int32)} (n d : Nat) {a0 : Int32} {m : xm_S} {r : Int32} (h : mk_isSignal a0 = r) : xm_Run pg xt d 77 0 0 (xQ_i (sh n) r m) 0 [some (xv_i a0)] [] (xq_2 (sh n) m) 0 0 := by
  unfold mk_isSignal at h
  refine xr_iload_n (in_77 rfl) rfl ?_
  by_cases c1071 : a0 < 0
  · replace h := (if_pos c1071).symm.trans h
    refine xr_ift 13 (in_77 rfl) rfl c1071 ?_
    refine xr_iconst_ _ (in_77 rfl) (show _ = (0 : Int32) by decide) ?_
    subst h
    exact xr_zret (kd_77) (in_77 rfl) (by decide) (Nat.le_refl _) (Nat.le_refl _) ⟨rfl, rfl⟩
  · replace h := (if_neg c1071).symm.trans h
    refine xr_iff 13 (in_77 rfl) rfl c1071 ?_
    refine xr_iload_n (in_77 rfl) rfl ?_
    refine xr_iconst_ _ (in_77 rfl) (show _ = (4 : Int32) by decide) ?_
    by_cases c1072 : (4 : Int32) ≤ a0
    · replace h := (if_pos c1072).symm.trans h
      refine xr_ict 13 (in_77 rfl) rfl c1072 ?_
      refine xr_iconst_ _ (in_77 rfl) (show _ = (0 : Int32) by decide) ?_
      subst h
      exact xr_zret (kd_77) (in_77 rfl) (by decide) (Nat.le_refl _) (Nat.le_refl _) ⟨rfl, rfl⟩
    · replace h := (if_neg c1072).symm.trans h
      refine xr_icf 13 (in_77 rfl) rfl c1072 ?_
      refine xr_iconst_ _ (in_77 rfl) (show _ = (1 : Int32) by decide) ?_
      refine xr_goto 14 (in_77 rfl) rfl ?_
      subst h
      exact xr_zret (kd_77) (in_77 rfl) (by decide) (Nat.le_refl _) (Nat.le_refl _) ⟨rfl, rfl⟩
def mk_gives (F : Nat) (a1 : Int32) (a2 : Int32) (m : xm_S) : Option (Int32 × xm_S) := if (wi_knows a1 m) = 0 then some ((-1 : Int32), m) else if (m.1 30 1) = (2 : Int32) then xg_n (a1 * (4 : Int32)) 400 (some (m.1 33 (a1 * (4 : Int32)).toNatClampNeg, m)) else if (mk_isSignal a2) = 0 then some ((-1 : Int32), m) else xg_n ((a1 * (4 : Int32)) + a2) 400 (some (m.1 33 ((a1 * (4 : Int32)) + a2).toNatClampNeg, m))
theorem mk_gives_ok {xt : Nat → Nat × (Nat → Int32)} (n d : Nat) {F : Nat} {a1 : Int32} {a2 : Int32} {m m' : xm_S} {r : Int32} (h : mk_gives F a1 a2 m = some (r, m')) : xm_Run pg xt (d + 1) 75 0 0 (xQ_i (sh n) r m') 0 [some (xv_r 0), some (xv_i a1), some (xv_i a2)] [] (xq_2 (sh n) m) 0 0 := by
  unfold mk_gives at h
  refine xr_aload_n (in_75 rfl) rfl ?_
  refine xq_getr (in_75 rfl) (fo_75 rfl) (sh_0 n) rfl ?_
  refine xr_iload_n (in_75 rfl) rfl ?_
  refine xq_calla [xv_r 30, xv_i a1] [] [some (xv_r 30), some (xv_i a1)] (xk_V (in_75 rfl) (sh_30 n)) (cl_75 rfl) rfl rfl rfl rfl (wi_knows_ok n d rfl) ?_
  by_cases c1074 : (wi_knows a1 m) = 0
  · replace h := (if_pos c1074).symm.trans h
    refine xr_iff 13 (in_75 rfl) rfl (fun q => q c1074) ?_
    refine xr_iconst_ _ (in_75 rfl) (show _ = (-1 : Int32) by decide) ?_
    obtain ⟨rfl, rfl⟩ := Prod.mk.inj (Option.some.inj h)
    exact xr_iret (kd_75) (in_75 rfl) (Nat.le_refl _) (Nat.le_refl _) ⟨rfl, rfl⟩
  · replace h := (if_neg c1074).symm.trans h
    refine xr_ift 13 (in_75 rfl) rfl c1074 ?_
    refine xr_aload_n (in_75 rfl) rfl ?_
    refine xq_getr (in_75 rfl) (fo_75 rfl) (sh_0 n) rfl ?_
    refine xq_geti (in_75 rfl) (fo_75 rfl) (sh_30 n) rfl ?_
    refine xr_iconst_ _ (in_75 rfl) (show _ = (2 : Int32) by decide) ?_
    by_cases c1075 : (m.1 30 1) = (2 : Int32)
    · replace h := (if_pos c1075).symm.trans h
      refine xr_icf 36 (in_75 rfl) rfl (fun q => q c1075) ?_
      refine xr_aload_n (in_75 rfl) rfl ?_
      refine xq_getr (in_75 rfl) (fo_75 rfl) (sh_0 n) rfl ?_
      refine xq_getr (in_75 rfl) (fo_75 rfl) (sh_30 n) rfl ?_
      refine xr_iload_n (in_75 rfl) rfl ?_
      refine xr_iconst_ _ (in_75 rfl) (show _ = (4 : Int32) by decide) ?_
      refine xr_imul (in_75 rfl) ?_
      obtain ⟨o1078, h⟩ := xg_e h
      refine xq_iald (in_75 rfl) (sh_33 n) o1078 ?_
      obtain ⟨rfl, rfl⟩ := Prod.mk.inj (Option.some.inj h)
      exact xr_iret (kd_75) (in_75 rfl) (Nat.le_refl _) (Nat.le_refl _) ⟨rfl, rfl⟩
    · replace h := (if_neg c1075).symm.trans h
      refine xr_ict 36 (in_75 rfl) rfl c1075 ?_
      refine xr_iload_n (in_75 rfl) rfl ?_
      refine xq_calla [xv_i a2] [] [some (xv_i a2)] (xk_S (in_75 rfl)) (cl_75 rfl) rfl rfl rfl rfl (mk_isSignal_ok n d rfl) ?_
      by_cases c1076 : (mk_isSignal a2) = 0
      · replace h := (if_pos c1076).symm.trans h
        refine xr_ift 59 (in_75 rfl) rfl c1076 ?_
        refine xr_iconst_ _ (in_75 rfl) (show _ = (-1 : Int32) by decide) ?_
        obtain ⟨rfl, rfl⟩ := Prod.mk.inj (Option.some.inj h)
        exact xr_iret (kd_75) (in_75 rfl) (Nat.le_refl _) (Nat.le_refl _) ⟨rfl, rfl⟩
      · replace h := (if_neg c1076).symm.trans h
        refine xr_iff 59 (in_75 rfl) rfl c1076 ?_
        refine xr_aload_n (in_75 rfl) rfl ?_
        refine xq_getr (in_75 rfl) (fo_75 rfl) (sh_0 n) rfl ?_
        refine xq_getr (in_75 rfl) (fo_75 rfl) (sh_30 n) rfl ?_
        refine xr_iload_n (in_75 rfl) rfl ?_
        refine xr_iconst_ _ (in_75 rfl) (show _ = (4 : Int32) by decide) ?_
        refine xr_imul (in_75 rfl) ?_
        refine xr_iload_n (in_75 rfl) rfl ?_
        refine xr_iadd (in_75 rfl) ?_
        obtain ⟨o1077, h⟩ := xg_e h
        refine xq_iald (in_75 rfl) (sh_33 n) o1077 ?_
        refine xr_goto 60 (in_75 rfl) rfl ?_
        obtain ⟨rfl, rfl⟩ := Prod.mk.inj (Option.some.inj h)
        exact xr_iret (kd_75) (in_75 rfl) (Nat.le_refl _) (Nat.le_refl _) ⟨rfl, rfl⟩
def mk_next (F : Nat) (a1 : Int32) (a2 : Int32) (m : xm_S) : Option (Int32 × xm_S) := if (wi_knows a1 m) = 0 then some ((-1 : Int32), m) else if (mk_isSignal a2) = 0 then some ((-1 : Int32), m) else xg_n ((a1 * (4 : Int32)) + a2) 400 (some (m.1 34 ((a1 * (4 : Int32)) + a2).toNatClampNeg, m))
theorem mk_next_ok {xt : Nat → Nat × (Nat → Int32)} (n d : Nat) {F : Nat} {a1 : Int32} {a2 : Int32} {m m' : xm_S} {r : Int32} (h : mk_next F a1 a2 m = some (r, m')) : xm_Run pg xt (d + 1) 78 0 0 (xQ_i (sh n) r m') 0 [some (xv_r 0), some (xv_i a1), some (xv_i a2)] [] (xq_2 (sh n) m) 0 0 := by
  unfold mk_next at h
  refine xr_aload_n (in_78 rfl) rfl ?_
  refine xq_getr (in_78 rfl) (fo_78 rfl) (sh_0 n) rfl ?_
  refine xr_iload_n (in_78 rfl) rfl ?_
  refine xq_calla [xv_r 30, xv_i a1] [] [some (xv_r 30), some (xv_i a1)] (xk_V (in_78 rfl) (sh_30 n)) (cl_78 rfl) rfl rfl rfl rfl (wi_knows_ok n d rfl) ?_
  by_cases c1081 : (wi_knows a1 m) = 0
  · replace h := (if_pos c1081).symm.trans h
    refine xr_ift 34 (in_78 rfl) rfl c1081 ?_
    refine xr_iconst_ _ (in_78 rfl) (show _ = (-1 : Int32) by decide) ?_
    obtain ⟨rfl, rfl⟩ := Prod.mk.inj (Option.some.inj h)
    exact xr_iret (kd_78) (in_78 rfl) (Nat.le_refl _) (Nat.le_refl _) ⟨rfl, rfl⟩
  · replace h := (if_neg c1081).symm.trans h
    refine xr_iff 34 (in_78 rfl) rfl c1081 ?_
    refine xr_iload_n (in_78 rfl) rfl ?_
    refine xq_calla [xv_i a2] [] [some (xv_i a2)] (xk_S (in_78 rfl)) (cl_78 rfl) rfl rfl rfl rfl (mk_isSignal_ok n d rfl) ?_
    by_cases c1082 : (mk_isSignal a2) = 0
    · replace h := (if_pos c1082).symm.trans h
      refine xr_ift 34 (in_78 rfl) rfl c1082 ?_
      refine xr_iconst_ _ (in_78 rfl) (show _ = (-1 : Int32) by decide) ?_
      obtain ⟨rfl, rfl⟩ := Prod.mk.inj (Option.some.inj h)
      exact xr_iret (kd_78) (in_78 rfl) (Nat.le_refl _) (Nat.le_refl _) ⟨rfl, rfl⟩
    · replace h := (if_neg c1082).symm.trans h
      refine xr_iff 34 (in_78 rfl) rfl c1082 ?_
      refine xr_aload_n (in_78 rfl) rfl ?_
      refine xq_getr (in_78 rfl) (fo_78 rfl) (sh_0 n) rfl ?_
      refine xq_getr (in_78 rfl) (fo_78 rfl) (sh_30 n) rfl ?_
      refine xr_iload_n (in_78 rfl) rfl ?_
      refine xr_iconst_ _ (in_78 rfl) (show _ = (4 : Int32) by decide) ?_
      refine xr_imul (in_78 rfl) ?_
      refine xr_iload_n (in_78 rfl) rfl ?_
      refine xr_iadd (in_78 rfl) ?_
      obtain ⟨o1083, h⟩ := xg_e h
      refine xq_iald (in_78 rfl) (sh_34 n) o1083 ?_
      refine xr_goto 35 (in_78 rfl) rfl ?_
      obtain ⟨rfl, rfl⟩ := Prod.mk.inj (Option.some.inj h)
      exact xr_iret (kd_78) (in_78 rfl) (Nat.le_refl _) (Nat.le_refl _) ⟨rfl, rfl⟩
def mm_isFormula (a1 : Int32) (m : xm_S) : Int32 := if a1 < 0 then (0 : Int32) else if (m.1 35 0) ≤ a1 then (0 : Int32) else (1 : Int32)
theorem mm_isFormula_b {a1 : Int32} {m : xm_S} : mm_isFormula a1 m = 0 ∨ mm_isFormula a1 m = 1 := by
  unfold mm_isFormula
  repeat' split
  all_goals first | decide
theorem mm_isFormula_ok {xt : Nat → Nat × (Nat → Int32)} (n d : Nat) {a1 : Int32} {m : xm_S} {r : Int32} (h : mm_isFormula a1 m = r) : xm_Run pg xt d 81 0 0 (xQ_i (sh n) r m) 0 [some (xv_r 35), some (xv_i a1)] [] (xq_2 (sh n) m) 0 0 := by
  unfold mm_isFormula at h
  refine xr_iload_n (in_81 rfl) rfl ?_
  by_cases c1090 : a1 < 0
  · replace h := (if_pos c1090).symm.trans h
    refine xr_ift 16 (in_81 rfl) rfl c1090 ?_
    refine xr_iconst_ _ (in_81 rfl) (show _ = (0 : Int32) by decide) ?_
    subst h
    exact xr_zret (kd_81) (in_81 rfl) (by decide) (Nat.le_refl _) (Nat.le_refl _) ⟨rfl, rfl⟩
  · replace h := (if_neg c1090).symm.trans h
    refine xr_iff 16 (in_81 rfl) rfl c1090 ?_
    refine xr_iload_n (in_81 rfl) rfl ?_
    refine xr_aload_n (in_81 rfl) rfl ?_
    refine xq_geti (in_81 rfl) (fo_81 rfl) (sh_35 n) rfl ?_
    by_cases c1091 : (m.1 35 0) ≤ a1
    · replace h := (if_pos c1091).symm.trans h
      refine xr_ict 16 (in_81 rfl) rfl c1091 ?_
      refine xr_iconst_ _ (in_81 rfl) (show _ = (0 : Int32) by decide) ?_
      subst h
      exact xr_zret (kd_81) (in_81 rfl) (by decide) (Nat.le_refl _) (Nat.le_refl _) ⟨rfl, rfl⟩
    · replace h := (if_neg c1091).symm.trans h
      refine xr_icf 16 (in_81 rfl) rfl c1091 ?_
      refine xr_iconst_ _ (in_81 rfl) (show _ = (1 : Int32) by decide) ?_
      refine xr_goto 17 (in_81 rfl) rfl ?_
      subst h
      exact xr_zret (kd_81) (in_81 rfl) (by decide) (Nat.le_refl _) (Nat.le_refl _) ⟨rfl, rfl⟩
def mm_hasTwo (a0 : Int32) : Int32 := if a0 = (4 : Int32) then (1 : Int32) else if a0 = (5 : Int32) then (1 : Int32) else if a0 = (7 : Int32) then (1 : Int32) else if a0 = (8 : Int32) then (1 : Int32) else (0 : Int32)
theorem mm_hasTwo_b {a0 : Int32} : mm_hasTwo a0 = 0 ∨ mm_hasTwo a0 = 1 := by
  unfold mm_hasTwo
  repeat' split
  all_goals first | decide
theorem mm_hasTwo_ok {xt : Nat → Nat × (Nat → Int32)} (n d : Nat) {a0 : Int32} {m : xm_S} {r : Int32} (h : mm_hasTwo a0 = r) : xm_Run pg xt d 82 0 0 (xQ_i (sh n) r m) 0 [some (xv_i a0)] [] (xq_2 (sh n) m) 0 0 := by
  unfold mm_hasTwo at h
  refine xr_iload_n (in_82 rfl) rfl ?_
  refine xr_iconst_ _ (in_82 rfl) (show _ = (4 : Int32) by decide) ?_
  by_cases c1094 : a0 = (4 : Int32)
  · replace h := (if_pos c1094).symm.trans h
    refine xr_ict 22 (in_82 rfl) rfl c1094 ?_
    refine xr_iconst_ _ (in_82 rfl) (show _ = (1 : Int32) by decide) ?_
    refine xr_goto 27 (in_82 rfl) rfl ?_
    subst h
    exact xr_zret (kd_82) (in_82 rfl) (by decide) (Nat.le_refl _) (Nat.le_refl _) ⟨rfl, rfl⟩
  · replace h := (if_neg c1094).symm.trans h
    refine xr_icf 22 (in_82 rfl) rfl c1094 ?_
    refine xr_iload_n (in_82 rfl) rfl ?_
    refine xr_iconst_ _ (in_82 rfl) (show _ = (5 : Int32) by decide) ?_
    by_cases c1095 : a0 = (5 : Int32)
    · replace h := (if_pos c1095).symm.trans h
      refine xr_ict 22 (in_82 rfl) rfl c1095 ?_
      refine xr_iconst_ _ (in_82 rfl) (show _ = (1 : Int32) by decide) ?_
      refine xr_goto 27 (in_82 rfl) rfl ?_
      subst h
      exact xr_zret (kd_82) (in_82 rfl) (by decide) (Nat.le_refl _) (Nat.le_refl _) ⟨rfl, rfl⟩
    · replace h := (if_neg c1095).symm.trans h
      refine xr_icf 22 (in_82 rfl) rfl c1095 ?_
      refine xr_iload_n (in_82 rfl) rfl ?_
      refine xr_bipush_ _ (in_82 rfl) (show _ = (7 : Int32) by decide) ?_
      by_cases c1096 : a0 = (7 : Int32)
      · replace h := (if_pos c1096).symm.trans h
        refine xr_ict 22 (in_82 rfl) rfl c1096 ?_
        refine xr_iconst_ _ (in_82 rfl) (show _ = (1 : Int32) by decide) ?_
        refine xr_goto 27 (in_82 rfl) rfl ?_
        subst h
        exact xr_zret (kd_82) (in_82 rfl) (by decide) (Nat.le_refl _) (Nat.le_refl _) ⟨rfl, rfl⟩
      · replace h := (if_neg c1096).symm.trans h
        refine xr_icf 22 (in_82 rfl) rfl c1096 ?_
        refine xr_iload_n (in_82 rfl) rfl ?_
        refine xr_bipush_ _ (in_82 rfl) (show _ = (8 : Int32) by decide) ?_
        by_cases c1097 : a0 = (8 : Int32)
        · replace h := (if_pos c1097).symm.trans h
          refine xr_icf 26 (in_82 rfl) rfl (fun q => q c1097) ?_
          refine xr_iconst_ _ (in_82 rfl) (show _ = (1 : Int32) by decide) ?_
          refine xr_goto 27 (in_82 rfl) rfl ?_
          subst h
          exact xr_zret (kd_82) (in_82 rfl) (by decide) (Nat.le_refl _) (Nat.le_refl _) ⟨rfl, rfl⟩
        · replace h := (if_neg c1097).symm.trans h
          refine xr_ict 26 (in_82 rfl) rfl c1097 ?_
          refine xr_iconst_ _ (in_82 rfl) (show _ = (0 : Int32) by decide) ?_
          subst h
          exact xr_zret (kd_82) (in_82 rfl) (by decide) (Nat.le_refl _) (Nat.le_refl _) ⟨rfl, rfl⟩
def mm_make_l3 (F : Nat) (a1104 : Int32) (a1105 : Int32) (a1106 : Int32) (k : xm_S → Option (Int32 × xm_S)) : Nat → Int32 → xm_S → Option (Int32 × xm_S)
  | 0, _, _ => none
  | fu + 1, a1107, m1103 => if (m1103.1 35 0) ≤ a1107 then k m1103 else xg_n a1107 28 (if (m1103.1 36 a1107.toNatClampNeg) = a1104 then xg_n a1107 28 (if (m1103.1 37 a1107.toNatClampNeg) = a1105 then xg_n a1107 28 (if (m1103.1 38 a1107.toNatClampNeg) = a1106 then some (a1107, m1103) else mm_make_l3 F a1104 a1105 a1106 k fu (a1107 + (1 : Int32)) m1103) else mm_make_l3 F a1104 a1105 a1106 k fu (a1107 + (1 : Int32)) m1103) else mm_make_l3 F a1104 a1105 a1106 k fu (a1107 + (1 : Int32)) m1103)
theorem mm_make_l3_ok {xt : Nat → Nat × (Nat → Int32)} (n d : Nat) {F : Nat} {a1104 : Int32} {a1105 : Int32} {a1106 : Int32} {k : xm_S → Option (Int32 × xm_S)} {r : Int32} {m' : xm_S} 
    (hk : ∀ (m : xm_S), k m = some (r, m') → xm_Run pg xt d 83 0 0 (xQ_i (sh n) r m') 54 [some (xv_r 35), some (xv_i a1104), some (xv_i a1105), some (xv_i a1106), none] [] (xq_2 (sh n) m) 0 0) :
    ∀ (fu : Nat) (a1107 : Int32) (m1103 : xm_S), mm_make_l3 F a1104 a1105 a1106 k fu a1107 m1103 = some (r, m') → xm_Run pg xt d 83 0 0 (xQ_i (sh n) r m') 3 [some (xv_r 35), some (xv_i a1104), some (xv_i a1105), some (xv_i a1106), some (xv_i a1107)] [] (xq_2 (sh n) m1103) 0 0 := by
  intro fu
  induction fu with
  | zero => intro a1107 m1103 h; cases h
  | succ fu ih =>
    intro a1107 m1103 h
    rw [mm_make_l3] at h
    refine xr_iload (in_83 rfl) rfl ?_
    refine xr_aload_n (in_83 rfl) rfl ?_
    refine xq_geti (in_83 rfl) (fo_83 rfl) (sh_35 n) rfl ?_
    by_cases c1108 : (m1103.1 35 0) ≤ a1107
    · replace h := (if_pos c1108).symm.trans h
      refine xr_ict 54 (in_83 rfl) rfl c1108 ?_
      refine xr_forget (loc' := [some (xv_r 35), some (xv_i a1104), some (xv_i a1105), some (xv_i a1106), none]) (xl_s (xl_s (xl_s (xl_s (xl_o xl_n))))) ?_
      exact hk m1103 h
    · replace h := (if_neg c1108).symm.trans h
      refine xr_icf 54 (in_83 rfl) rfl c1108 ?_
      refine xr_aload_n (in_83 rfl) rfl ?_
      refine xq_getr (in_83 rfl) (fo_83 rfl) (sh_35 n) rfl ?_
      refine xr_iload (in_83 rfl) rfl ?_
      obtain ⟨o1109, h⟩ := xg_e h
      refine xq_iald (in_83 rfl) (sh_36 n) o1109 ?_
      refine xr_iload_n (in_83 rfl) rfl ?_
      by_cases c1110 : (m1103.1 36 a1107.toNatClampNeg) = a1104
      · replace h := (if_pos c1110).symm.trans h
        refine xr_icf 48 (in_83 rfl) rfl (fun q => q c1110) ?_
        refine xr_aload_n (in_83 rfl) rfl ?_
        refine xq_getr (in_83 rfl) (fo_83 rfl) (sh_35 n) rfl ?_
        refine xr_iload (in_83 rfl) rfl ?_
        obtain ⟨o1111, h⟩ := xg_e h
        refine xq_iald (in_83 rfl) (sh_37 n) o1111 ?_
        refine xr_iload_n (in_83 rfl) rfl ?_
        by_cases c1112 : (m1103.1 37 a1107.toNatClampNeg) = a1105
        · replace h := (if_pos c1112).symm.trans h
          refine xr_icf 48 (in_83 rfl) rfl (fun q => q c1112) ?_
          refine xr_aload_n (in_83 rfl) rfl ?_
          refine xq_getr (in_83 rfl) (fo_83 rfl) (sh_35 n) rfl ?_
          refine xr_iload (in_83 rfl) rfl ?_
          obtain ⟨o1113, h⟩ := xg_e h
          refine xq_iald (in_83 rfl) (sh_38 n) o1113 ?_
          refine xr_iload_n (in_83 rfl) rfl ?_
          by_cases c1114 : (m1103.1 38 a1107.toNatClampNeg) = a1106
          · replace h := (if_pos c1114).symm.trans h
            refine xr_icf 48 (in_83 rfl) rfl (fun q => q c1114) ?_
            refine xr_iload (in_83 rfl) rfl ?_
            obtain ⟨rfl, rfl⟩ := Prod.mk.inj (Option.some.inj h)
            exact xr_iret (kd_83) (in_83 rfl) (Nat.le_refl _) (Nat.le_refl _) ⟨rfl, rfl⟩
          · replace h := (if_neg c1114).symm.trans h
            refine xr_ict 48 (in_83 rfl) rfl c1114 ?_
            refine xr_iinc (a1107 + (1 : Int32)) [some (xv_r 35), some (xv_i a1104), some (xv_i a1105), some (xv_i a1106), some (xv_i (a1107 + (1 : Int32)))] (in_83 rfl) rfl (xi_1 _) (nl_83 rfl) rfl ?_
            refine xr_goto 3 (in_83 rfl) rfl ?_
            exact ih (a1107 + (1 : Int32)) m1103 h
        · replace h := (if_neg c1112).symm.trans h
          refine xr_ict 48 (in_83 rfl) rfl c1112 ?_
          refine xr_iinc (a1107 + (1 : Int32)) [some (xv_r 35), some (xv_i a1104), some (xv_i a1105), some (xv_i a1106), some (xv_i (a1107 + (1 : Int32)))] (in_83 rfl) rfl (xi_1 _) (nl_83 rfl) rfl ?_
          refine xr_goto 3 (in_83 rfl) rfl ?_
          exact ih (a1107 + (1 : Int32)) m1103 h
      · replace h := (if_neg c1110).symm.trans h
        refine xr_ict 48 (in_83 rfl) rfl c1110 ?_
        refine xr_iinc (a1107 + (1 : Int32)) [some (xv_r 35), some (xv_i a1104), some (xv_i a1105), some (xv_i a1106), some (xv_i (a1107 + (1 : Int32)))] (in_83 rfl) rfl (xi_1 _) (nl_83 rfl) rfl ?_
        refine xr_goto 3 (in_83 rfl) rfl ?_
        exact ih (a1107 + (1 : Int32)) m1103 h
def mm_make (F : Nat) (a1 : Int32) (a2 : Int32) (a3 : Int32) (m : xm_S) : Option (Int32 × xm_S) := mm_make_l3 F a1 a2 a3 (fun (m1115 : xm_S) => if (m1115.1 35 0) = (28 : Int32) then some ((-2 : Int32), m1115) else xg_n (m1115.1 35 0) 28 (xs_m (xw_i m1115 36 (m1115.1 35 0).toNatClampNeg a1) fun m1118 => xg_n (m1118.1 35 0) 28 (xs_m (xw_i m1118 37 (m1118.1 35 0).toNatClampNeg a2) fun m1121 => xg_n (m1121.1 35 0) 28 (xs_m (xw_i m1121 38 (m1121.1 35 0).toNatClampNeg a3) fun m1124 => xs_m (xw_i m1124 35 0 ((m1124.1 35 0) + (1 : Int32))) fun m1126 => some ((m1126.1 35 0) - (1 : Int32), m1126))))) F (0 : Int32) m
theorem mm_make_ok {xt : Nat → Nat × (Nat → Int32)} (n d : Nat) {F : Nat} {a1 : Int32} {a2 : Int32} {a3 : Int32} {m m' : xm_S} {r : Int32} (h : mm_make F a1 a2 a3 m = some (r, m')) : xm_Run pg xt d 83 0 0 (xQ_i (sh n) r m') 0 [some (xv_r 35), some (xv_i a1), some (xv_i a2), some (xv_i a3), none] [] (xq_2 (sh n) m) 0 0 := by
  unfold mm_make at h
  refine xr_iconst_ _ (in_83 rfl) (show _ = (0 : Int32) by decide) ?_
  refine xr_istore [some (xv_r 35), some (xv_i a1), some (xv_i a2), some (xv_i a3), some (xv_i (0 : Int32))] (in_83 rfl) (nl_83 rfl) rfl ?_
  refine mm_make_l3_ok n d (fun m1115 h => ?_) F (0 : Int32) m h
  refine xr_aload_n (in_83 rfl) rfl ?_
  refine xq_geti (in_83 rfl) (fo_83 rfl) (sh_35 n) rfl ?_
  refine xr_bipush_ _ (in_83 rfl) (show _ = (28 : Int32) by decide) ?_
  by_cases c1116 : (m1115.1 35 0) = (28 : Int32)
  · replace h := (if_pos c1116).symm.trans h
    refine xr_icf 66 (in_83 rfl) rfl (fun q => q c1116) ?_
    refine xr_bipush_ _ (in_83 rfl) (show _ = (-2 : Int32) by decide) ?_
    obtain ⟨rfl, rfl⟩ := Prod.mk.inj (Option.some.inj h)
    exact xr_iret (kd_83) (in_83 rfl) (Nat.le_refl _) (Nat.le_refl _) ⟨rfl, rfl⟩
  · replace h := (if_neg c1116).symm.trans h
    refine xr_ict 66 (in_83 rfl) rfl c1116 ?_
    refine xr_aload_n (in_83 rfl) rfl ?_
    refine xq_getr (in_83 rfl) (fo_83 rfl) (sh_35 n) rfl ?_
    refine xr_aload_n (in_83 rfl) rfl ?_
    refine xq_geti (in_83 rfl) (fo_83 rfl) (sh_35 n) rfl ?_
    refine xr_iload_n (in_83 rfl) rfl ?_
    obtain ⟨o1117, h⟩ := xg_e h
    refine xq_iast (in_83 rfl) (sh_36 n) o1117 ?_
    obtain ⟨m1118, e1119, h⟩ := xs_e h
    rw [← e1119]
    clear e1119
    refine xr_aload_n (in_83 rfl) rfl ?_
    refine xq_getr (in_83 rfl) (fo_83 rfl) (sh_35 n) rfl ?_
    refine xr_aload_n (in_83 rfl) rfl ?_
    refine xq_geti (in_83 rfl) (fo_83 rfl) (sh_35 n) rfl ?_
    refine xr_iload_n (in_83 rfl) rfl ?_
    obtain ⟨o1120, h⟩ := xg_e h
    refine xq_iast (in_83 rfl) (sh_37 n) o1120 ?_
    obtain ⟨m1121, e1122, h⟩ := xs_e h
    rw [← e1122]
    clear e1122
    refine xr_aload_n (in_83 rfl) rfl ?_
    refine xq_getr (in_83 rfl) (fo_83 rfl) (sh_35 n) rfl ?_
    refine xr_aload_n (in_83 rfl) rfl ?_
    refine xq_geti (in_83 rfl) (fo_83 rfl) (sh_35 n) rfl ?_
    refine xr_iload_n (in_83 rfl) rfl ?_
    obtain ⟨o1123, h⟩ := xg_e h
    refine xq_iast (in_83 rfl) (sh_38 n) o1123 ?_
    obtain ⟨m1124, e1125, h⟩ := xs_e h
    rw [← e1125]
    clear e1125
    refine xr_aload_n (in_83 rfl) rfl ?_
    refine xr_dup (in_83 rfl) rfl ?_
    refine xq_geti (in_83 rfl) (fo_83 rfl) (sh_35 n) rfl ?_
    refine xr_iconst_ _ (in_83 rfl) (show _ = (1 : Int32) by decide) ?_
    refine xr_iadd (in_83 rfl) ?_
    refine xq_put (in_83 rfl) (fo_83 rfl) (sh_35 n) rfl (Or.inl rfl) ?_
    obtain ⟨m1126, e1127, h⟩ := xs_e h
    rw [← e1127]
    clear e1127
    refine xr_aload_n (in_83 rfl) rfl ?_
    refine xq_geti (in_83 rfl) (fo_83 rfl) (sh_35 n) rfl ?_
    refine xr_iconst_ _ (in_83 rfl) (show _ = (1 : Int32) by decide) ?_
    refine xr_isub (in_83 rfl) ?_
    obtain ⟨rfl, rfl⟩ := Prod.mk.inj (Option.some.inj h)
    exact xr_iret (kd_83) (in_83 rfl) (Nat.le_refl _) (Nat.le_refl _) ⟨rfl, rfl⟩
def mm_formula (F : Nat) (a1 : Int32) (a2 : Int32) (a3 : Int32) (m : xm_S) : Option (Int32 × xm_S) := if a1 < 0 then some ((-1 : Int32), m) else if a1 ≤ (8 : Int32) then xj_j (fun (u1140 : Unit) => xj_j (fun (u1148 : Unit) => xj_j (fun (u1156 : Unit) => xc_m (mm_make F a1 (if a1 ≤ (1 : Int32) then (0 : Int32) else a2) (if (mm_hasTwo a1) = 0 then (0 : Int32) else a3) m) fun v1162 m1163 => some (v1162, m1163)) fun j1157 => if (mm_hasTwo a1) = 0 then j1157 () else if (mm_isFormula a3 m) = 0 then some ((-1 : Int32), m) else j1157 ()) fun j1149 => if a1 ≤ (3 : Int32) then j1149 () else if (mm_isFormula a2 m) = 0 then some ((-1 : Int32), m) else j1149 ()) fun j1141 => xj_j (fun (u1174 : Unit) => if a2 < 0 then some ((-1 : Int32), m) else if a2 ≤ (3 : Int32) then j1141 () else some ((-1 : Int32), m)) fun j1175 => if a1 = (2 : Int32) then j1175 () else if a1 = (3 : Int32) then j1175 () else j1141 () else some ((-1 : Int32), m)
theorem mm_formula_ok {xt : Nat → Nat × (Nat → Int32)} (n d : Nat) {F : Nat} {a1 : Int32} {a2 : Int32} {a3 : Int32} {m m' : xm_S} {r : Int32} (h : mm_formula F a1 a2 a3 m = some (r, m')) : xm_Run pg xt (d + 1) 80 0 0 (xQ_i (sh n) r m') 0 [some (xv_r 35), some (xv_i a1), some (xv_i a2), some (xv_i a3)] [] (xq_2 (sh n) m) 0 0 := by
  unfold mm_formula at h
  refine xr_iload_n (in_80 rfl) rfl ?_
  by_cases c1132 : a1 < 0
  · replace h := (if_pos c1132).symm.trans h
    refine xr_ift 10 (in_80 rfl) rfl c1132 ?_
    refine xr_iconst_ _ (in_80 rfl) (show _ = (-1 : Int32) by decide) ?_
    obtain ⟨rfl, rfl⟩ := Prod.mk.inj (Option.some.inj h)
    exact xr_iret (kd_80) (in_80 rfl) (Nat.le_refl _) (Nat.le_refl _) ⟨rfl, rfl⟩
  · replace h := (if_neg c1132).symm.trans h
    refine xr_iff 10 (in_80 rfl) rfl c1132 ?_
    refine xr_iload_n (in_80 rfl) rfl ?_
    refine xr_bipush_ _ (in_80 rfl) (show _ = (8 : Int32) by decide) ?_
    by_cases c1133 : a1 ≤ (8 : Int32)
    · replace h := (if_pos c1133).symm.trans h
      refine xr_ict 12 (in_80 rfl) rfl c1133 ?_
      refine xr_iload_n (in_80 rfl) rfl ?_
      refine xr_iconst_ _ (in_80 rfl) (show _ = (2 : Int32) by decide) ?_
      obtain ⟨j1141, e1142, h⟩ := xj_e h
      have q1143 : ∀ (u1140 : Unit), j1141 u1140 = some (r, m') → xm_Run pg xt (d + 1) 80 0 0 (xQ_i (sh n) r m') 33 [some (xv_r 35), some (xv_i a1), some (xv_i a2), some (xv_i a3)] [] (xq_2 (sh n) m) 0 0 := by
        intro u1140 h
        rw [e1142] at h
        refine xr_iload_n (in_80 rfl) rfl ?_
        refine xr_iconst_ _ (in_80 rfl) (show _ = (3 : Int32) by decide) ?_
        obtain ⟨j1149, e1150, h⟩ := xj_e h
        have q1151 : ∀ (u1148 : Unit), j1149 u1148 = some (r, m') → xm_Run pg xt (d + 1) 80 0 0 (xQ_i (sh n) r m') 46 [some (xv_r 35), some (xv_i a1), some (xv_i a2), some (xv_i a3)] [] (xq_2 (sh n) m) 0 0 := by
          intro u1148 h
          rw [e1150] at h
          refine xr_iload_n (in_80 rfl) rfl ?_
          refine xq_calla [xv_i a1] [] [some (xv_i a1)] (xk_S (in_80 rfl)) (cl_80 rfl) rfl rfl rfl rfl (mm_hasTwo_ok n d rfl) ?_
          obtain ⟨j1157, e1158, h⟩ := xj_e h
          have q1159 : ∀ (u1156 : Unit), j1157 u1156 = some (r, m') → xm_Run pg xt (d + 1) 80 0 0 (xQ_i (sh n) r m') 63 [some (xv_r 35), some (xv_i a1), some (xv_i a2), some (xv_i a3)] [] (xq_2 (sh n) m) 0 0 := by
            intro u1156 h
            rw [e1158] at h
            refine xr_aload_n (in_80 rfl) rfl ?_
            refine xr_iload_n (in_80 rfl) rfl ?_
            refine xr_iload_n (in_80 rfl) rfl ?_
            refine xr_iconst_ _ (in_80 rfl) (show _ = (1 : Int32) by decide) ?_
            have q1167 : xm_Run pg xt (d + 1) 80 0 0 (xQ_i (sh n) r m') 75 [none, some (xv_i a1), none, some (xv_i a3)] [xv_i (if a1 ≤ (1 : Int32) then (0 : Int32) else a2), xv_i a1, xv_r 35] (xq_2 (sh n) m) 0 0 := by
              refine xr_iload_n (in_80 rfl) rfl ?_
              refine xq_calla [xv_i a1] [xv_i (if a1 ≤ (1 : Int32) then (0 : Int32) else a2), xv_i a1, xv_r 35] [some (xv_i a1)] (xk_S (in_80 rfl)) (cl_80 rfl) rfl rfl rfl rfl (mm_hasTwo_ok n d rfl) ?_
              have q1166 : xm_Run pg xt (d + 1) 80 0 0 (xQ_i (sh n) r m') 87 [none, none, none, none] [xv_i (if (mm_hasTwo a1) = 0 then (0 : Int32) else a3), xv_i (if a1 ≤ (1 : Int32) then (0 : Int32) else a2), xv_i a1, xv_r 35] (xq_2 (sh n) m) 0 0 := by
                obtain ⟨v1162, m1163, e1164, h⟩ := xc_m_e h
                refine xq_calla [xv_r 35, xv_i a1, xv_i (if a1 ≤ (1 : Int32) then (0 : Int32) else a2), xv_i (if (mm_hasTwo a1) = 0 then (0 : Int32) else a3)] [] [some (xv_r 35), some (xv_i a1), some (xv_i (if a1 ≤ (1 : Int32) then (0 : Int32) else a2)), some (xv_i (if (mm_hasTwo a1) = 0 then (0 : Int32) else a3)), none] (xk_V (in_80 rfl) (sh_35 n)) (cl_80 rfl) rfl rfl rfl rfl (mm_make_ok n d e1164) ?_
                obtain ⟨rfl, rfl⟩ := Prod.mk.inj (Option.some.inj h)
                exact xr_iret (kd_80) (in_80 rfl) (Nat.le_refl _) (Nat.le_refl _) ⟨rfl, rfl⟩
              by_cases c1161 : (mm_hasTwo a1) = 0
              · refine xr_ift 86 (in_80 rfl) rfl c1161 ?_
                refine xr_iconst_ _ (in_80 rfl) (show _ = (0 : Int32) by decide) ?_
                refine xr_forget (loc' := [none, none, none, none]) (xl_o (xl_o (xl_o (xl_o xl_n)))) ?_
                rw [show (if (mm_hasTwo a1) = 0 then (0 : Int32) else a3) = (0 : Int32) by rw [if_pos c1161]] at q1166
                exact q1166
              · refine xr_iff 86 (in_80 rfl) rfl c1161 ?_
                refine xr_iload_n (in_80 rfl) rfl ?_
                refine xr_goto 87 (in_80 rfl) rfl ?_
                refine xr_forget (loc' := [none, none, none, none]) (xl_o (xl_o (xl_o (xl_o xl_n)))) ?_
                rw [show (if (mm_hasTwo a1) = 0 then (0 : Int32) else a3) = a3 by rw [if_neg c1161]] at q1166
                exact q1166
            by_cases c1160 : a1 ≤ (1 : Int32)
            · refine xr_ict 74 (in_80 rfl) rfl c1160 ?_
              refine xr_iconst_ _ (in_80 rfl) (show _ = (0 : Int32) by decide) ?_
              refine xr_forget (loc' := [none, some (xv_i a1), none, some (xv_i a3)]) (xl_o (xl_s (xl_o (xl_s xl_n)))) ?_
              rw [show (if a1 ≤ (1 : Int32) then (0 : Int32) else a2) = (0 : Int32) by rw [if_pos c1160]] at q1167
              exact q1167
            · refine xr_icf 74 (in_80 rfl) rfl c1160 ?_
              refine xr_iload_n (in_80 rfl) rfl ?_
              refine xr_goto 75 (in_80 rfl) rfl ?_
              refine xr_forget (loc' := [none, some (xv_i a1), none, some (xv_i a3)]) (xl_o (xl_s (xl_o (xl_s xl_n)))) ?_
              rw [show (if a1 ≤ (1 : Int32) then (0 : Int32) else a2) = a2 by rw [if_neg c1160]] at q1167
              exact q1167
          clear e1158
          by_cases c1168 : (mm_hasTwo a1) = 0
          · replace h := (if_pos c1168).symm.trans h
            refine xr_ift 63 (in_80 rfl) rfl c1168 ?_
            exact q1159 () h
          · replace h := (if_neg c1168).symm.trans h
            refine xr_iff 63 (in_80 rfl) rfl c1168 ?_
            refine xr_aload_n (in_80 rfl) rfl ?_
            refine xr_iload_n (in_80 rfl) rfl ?_
            refine xq_calla [xv_r 35, xv_i a3] [] [some (xv_r 35), some (xv_i a3)] (xk_V (in_80 rfl) (sh_35 n)) (cl_80 rfl) rfl rfl rfl rfl (mm_isFormula_ok n d rfl) ?_
            by_cases c1169 : (mm_isFormula a3 m) = 0
            · replace h := (if_pos c1169).symm.trans h
              refine xr_iff 63 (in_80 rfl) rfl (fun q => q c1169) ?_
              refine xr_iconst_ _ (in_80 rfl) (show _ = (-1 : Int32) by decide) ?_
              obtain ⟨rfl, rfl⟩ := Prod.mk.inj (Option.some.inj h)
              exact xr_iret (kd_80) (in_80 rfl) (Nat.le_refl _) (Nat.le_refl _) ⟨rfl, rfl⟩
            · replace h := (if_neg c1169).symm.trans h
              refine xr_ift 63 (in_80 rfl) rfl c1169 ?_
              exact q1159 () h
        clear e1150
        by_cases c1170 : a1 ≤ (3 : Int32)
        · replace h := (if_pos c1170).symm.trans h
          refine xr_ict 46 (in_80 rfl) rfl c1170 ?_
          exact q1151 () h
        · replace h := (if_neg c1170).symm.trans h
          refine xr_icf 46 (in_80 rfl) rfl c1170 ?_
          refine xr_aload_n (in_80 rfl) rfl ?_
          refine xr_iload_n (in_80 rfl) rfl ?_
          refine xq_calla [xv_r 35, xv_i a2] [] [some (xv_r 35), some (xv_i a2)] (xk_V (in_80 rfl) (sh_35 n)) (cl_80 rfl) rfl rfl rfl rfl (mm_isFormula_ok n d rfl) ?_
          by_cases c1171 : (mm_isFormula a2 m) = 0
          · replace h := (if_pos c1171).symm.trans h
            refine xr_ift 61 (in_80 rfl) rfl c1171 ?_
            refine xr_iconst_ _ (in_80 rfl) (show _ = (-1 : Int32) by decide) ?_
            obtain ⟨rfl, rfl⟩ := Prod.mk.inj (Option.some.inj h)
            exact xr_iret (kd_80) (in_80 rfl) (Nat.le_refl _) (Nat.le_refl _) ⟨rfl, rfl⟩
          · replace h := (if_neg c1171).symm.trans h
            refine xr_iff 61 (in_80 rfl) rfl c1171 ?_
            exact q1151 () h
      clear e1142
      obtain ⟨j1175, e1176, h⟩ := xj_e h
      have q1177 : ∀ (u1174 : Unit), j1175 u1174 = some (r, m') → xm_Run pg xt (d + 1) 80 0 0 (xQ_i (sh n) r m') 22 [some (xv_r 35), some (xv_i a1), some (xv_i a2), some (xv_i a3)] [] (xq_2 (sh n) m) 0 0 := by
        intro u1174 h
        rw [e1176] at h
        refine xr_iload_n (in_80 rfl) rfl ?_
        by_cases c1178 : a2 < 0
        · replace h := (if_pos c1178).symm.trans h
          refine xr_ift 31 (in_80 rfl) rfl c1178 ?_
          refine xr_iconst_ _ (in_80 rfl) (show _ = (-1 : Int32) by decide) ?_
          obtain ⟨rfl, rfl⟩ := Prod.mk.inj (Option.some.inj h)
          exact xr_iret (kd_80) (in_80 rfl) (Nat.le_refl _) (Nat.le_refl _) ⟨rfl, rfl⟩
        · replace h := (if_neg c1178).symm.trans h
          refine xr_iff 31 (in_80 rfl) rfl c1178 ?_
          refine xr_iload_n (in_80 rfl) rfl ?_
          refine xr_iconst_ _ (in_80 rfl) (show _ = (3 : Int32) by decide) ?_
          by_cases c1179 : a2 ≤ (3 : Int32)
          · replace h := (if_pos c1179).symm.trans h
            refine xr_ict 33 (in_80 rfl) rfl c1179 ?_
            exact q1143 () h
          · replace h := (if_neg c1179).symm.trans h
            refine xr_icf 33 (in_80 rfl) rfl c1179 ?_
            refine xr_iconst_ _ (in_80 rfl) (show _ = (-1 : Int32) by decide) ?_
            obtain ⟨rfl, rfl⟩ := Prod.mk.inj (Option.some.inj h)
            exact xr_iret (kd_80) (in_80 rfl) (Nat.le_refl _) (Nat.le_refl _) ⟨rfl, rfl⟩
      clear e1176
      by_cases c1180 : a1 = (2 : Int32)
      · replace h := (if_pos c1180).symm.trans h
        refine xr_ict 22 (in_80 rfl) rfl c1180 ?_
        exact q1177 () h
      · replace h := (if_neg c1180).symm.trans h
        refine xr_icf 22 (in_80 rfl) rfl c1180 ?_
        refine xr_iload_n (in_80 rfl) rfl ?_
        refine xr_iconst_ _ (in_80 rfl) (show _ = (3 : Int32) by decide) ?_
        by_cases c1181 : a1 = (3 : Int32)
        · replace h := (if_pos c1181).symm.trans h
          refine xr_icf 33 (in_80 rfl) rfl (fun q => q c1181) ?_
          exact q1177 () h
        · replace h := (if_neg c1181).symm.trans h
          refine xr_ict 33 (in_80 rfl) rfl c1181 ?_
          exact q1143 () h
    · replace h := (if_neg c1133).symm.trans h
      refine xr_icf 12 (in_80 rfl) rfl c1133 ?_
      refine xr_iconst_ _ (in_80 rfl) (show _ = (-1 : Int32) by decide) ?_
      obtain ⟨rfl, rfl⟩ := Prod.mk.inj (Option.some.inj h)
      exact xr_iret (kd_80) (in_80 rfl) (Nat.le_refl _) (Nat.le_refl _) ⟨rfl, rfl⟩
def mm_dualKind (a0 : Int32) : Int32 := if a0 = (0 : Int32) then (1 : Int32) else if a0 = (1 : Int32) then (0 : Int32) else if a0 = (2 : Int32) then (3 : Int32) else if a0 = (3 : Int32) then (2 : Int32) else if a0 = (4 : Int32) then (5 : Int32) else if a0 = (5 : Int32) then (4 : Int32) else if a0 = (7 : Int32) then (8 : Int32) else if a0 = (8 : Int32) then (7 : Int32) else (6 : Int32)
theorem mm_dualKind_ok {xt : Nat → Nat × (Nat → Int32)} (n d : Nat) {a0 : Int32} {m : xm_S} {r : Int32} (h : mm_dualKind a0 = r) : xm_Run pg xt d 85 0 0 (xQ_i (sh n) r m) 0 [some (xv_i a0)] [] (xq_2 (sh n) m) 0 0 := by
  unfold mm_dualKind at h
  refine xr_iload_n (in_85 rfl) rfl ?_
  by_cases c1243 : a0 = (0 : Int32)
  · replace h := (if_pos c1243).symm.trans h
    refine xr_swi 52 (in_85 rfl) (by rw [c1243]; decide) (by rw [c1243]; decide) (by rw [c1243]; rfl) rfl ?_
    refine xr_iconst_ _ (in_85 rfl) (show _ = (1 : Int32) by decide) ?_
    subst h
    exact xr_iret (kd_85) (in_85 rfl) (Nat.le_refl _) (Nat.le_refl _) ⟨rfl, rfl⟩
  replace h := (if_neg c1243).symm.trans h
  by_cases c1244 : a0 = (1 : Int32)
  · replace h := (if_pos c1244).symm.trans h
    refine xr_swi 54 (in_85 rfl) (by rw [c1244]; decide) (by rw [c1244]; decide) (by rw [c1244]; rfl) rfl ?_
    refine xr_iconst_ _ (in_85 rfl) (show _ = (0 : Int32) by decide) ?_
    subst h
    exact xr_iret (kd_85) (in_85 rfl) (Nat.le_refl _) (Nat.le_refl _) ⟨rfl, rfl⟩
  replace h := (if_neg c1244).symm.trans h
  by_cases c1245 : a0 = (2 : Int32)
  · replace h := (if_pos c1245).symm.trans h
    refine xr_swi 56 (in_85 rfl) (by rw [c1245]; decide) (by rw [c1245]; decide) (by rw [c1245]; rfl) rfl ?_
    refine xr_iconst_ _ (in_85 rfl) (show _ = (3 : Int32) by decide) ?_
    subst h
    exact xr_iret (kd_85) (in_85 rfl) (Nat.le_refl _) (Nat.le_refl _) ⟨rfl, rfl⟩
  replace h := (if_neg c1245).symm.trans h
  by_cases c1246 : a0 = (3 : Int32)
  · replace h := (if_pos c1246).symm.trans h
    refine xr_swi 58 (in_85 rfl) (by rw [c1246]; decide) (by rw [c1246]; decide) (by rw [c1246]; rfl) rfl ?_
    refine xr_iconst_ _ (in_85 rfl) (show _ = (2 : Int32) by decide) ?_
    subst h
    exact xr_iret (kd_85) (in_85 rfl) (Nat.le_refl _) (Nat.le_refl _) ⟨rfl, rfl⟩
  replace h := (if_neg c1246).symm.trans h
  by_cases c1247 : a0 = (4 : Int32)
  · replace h := (if_pos c1247).symm.trans h
    refine xr_swi 60 (in_85 rfl) (by rw [c1247]; decide) (by rw [c1247]; decide) (by rw [c1247]; rfl) rfl ?_
    refine xr_iconst_ _ (in_85 rfl) (show _ = (5 : Int32) by decide) ?_
    subst h
    exact xr_iret (kd_85) (in_85 rfl) (Nat.le_refl _) (Nat.le_refl _) ⟨rfl, rfl⟩
  replace h := (if_neg c1247).symm.trans h
  by_cases c1248 : a0 = (5 : Int32)
  · replace h := (if_pos c1248).symm.trans h
    refine xr_swi 62 (in_85 rfl) (by rw [c1248]; decide) (by rw [c1248]; decide) (by rw [c1248]; rfl) rfl ?_
    refine xr_iconst_ _ (in_85 rfl) (show _ = (4 : Int32) by decide) ?_
    subst h
    exact xr_iret (kd_85) (in_85 rfl) (Nat.le_refl _) (Nat.le_refl _) ⟨rfl, rfl⟩
  replace h := (if_neg c1248).symm.trans h
  by_cases c1249 : a0 = (7 : Int32)
  · replace h := (if_pos c1249).symm.trans h
    refine xr_swi 64 (in_85 rfl) (by rw [c1249]; decide) (by rw [c1249]; decide) (by rw [c1249]; rfl) rfl ?_
    refine xr_bipush_ _ (in_85 rfl) (show _ = (8 : Int32) by decide) ?_
    subst h
    exact xr_iret (kd_85) (in_85 rfl) (Nat.le_refl _) (Nat.le_refl _) ⟨rfl, rfl⟩
  replace h := (if_neg c1249).symm.trans h
  by_cases c1250 : a0 = (8 : Int32)
  · replace h := (if_pos c1250).symm.trans h
    refine xr_swi 67 (in_85 rfl) (by rw [c1250]; decide) (by rw [c1250]; decide) (by rw [c1250]; rfl) rfl ?_
    refine xr_bipush_ _ (in_85 rfl) (show _ = (7 : Int32) by decide) ?_
    subst h
    exact xr_iret (kd_85) (in_85 rfl) (Nat.le_refl _) (Nat.le_refl _) ⟨rfl, rfl⟩
  replace h := (if_neg c1250).symm.trans h
  have c1243z : a0.toInt ≠ 0 := fun q => c1243 (Int32.toInt_inj.mp (q.trans (by decide)))
  have c1244z : a0.toInt ≠ 1 := fun q => c1244 (Int32.toInt_inj.mp (q.trans (by decide)))
  have c1245z : a0.toInt ≠ 2 := fun q => c1245 (Int32.toInt_inj.mp (q.trans (by decide)))
  have c1246z : a0.toInt ≠ 3 := fun q => c1246 (Int32.toInt_inj.mp (q.trans (by decide)))
  have c1247z : a0.toInt ≠ 4 := fun q => c1247 (Int32.toInt_inj.mp (q.trans (by decide)))
  have c1248z : a0.toInt ≠ 5 := fun q => c1248 (Int32.toInt_inj.mp (q.trans (by decide)))
  have c1249z : a0.toInt ≠ 7 := fun q => c1249 (Int32.toInt_inj.mp (q.trans (by decide)))
  have c1250z : a0.toInt ≠ 8 := fun q => c1250 (Int32.toInt_inj.mp (q.trans (by decide)))
  by_cases c1251 : a0 = (6 : Int32)
  · refine xr_swi 70 (in_85 rfl) (by rw [c1251]; decide) (by rw [c1251]; decide) (by rw [c1251]; rfl) rfl ?_
    refine xr_bipush_ _ (in_85 rfl) (show _ = (6 : Int32) by decide) ?_
    subst h
    exact xr_iret (kd_85) (in_85 rfl) (Nat.le_refl _) (Nat.le_refl _) ⟨rfl, rfl⟩
  have c1251z : a0.toInt ≠ 6 := fun q => c1251 (Int32.toInt_inj.mp (q.trans (by decide)))
  refine xr_swo 70 (in_85 rfl) (by omega) rfl ?_
  refine xr_bipush_ _ (in_85 rfl) (show _ = (6 : Int32) by decide) ?_
  subst h
  exact xr_iret (kd_85) (in_85 rfl) (Nat.le_refl _) (Nat.le_refl _) ⟨rfl, rfl⟩
