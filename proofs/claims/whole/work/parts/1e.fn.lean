/-! Methods as functions, and that they run so (written by program). -/
def gm_explore_l35 (F : Nat) (a741 : Int32) (a742 : Int32) (k : xm_S → Option (Int32 × xm_S)) : Nat → Int32 → xm_S → Option (Int32 × xm_S)
  | 0, _, _ => none
  | fu + 1, a743, m740 => if (16 : Int32) ≤ a743 then k m740 else xg_n a742 100 (xc_m (gm_rowAfter F (m740.2 27 a742.toNatClampNeg) a743 a741 m740) fun v787 m788 => xj_j (fun (x810 : Int32) (m811 : xm_S) => if x810 = (-2 : Int32) then some ((0 : Int32), m811) else xg_n ((a742 * (16 : Int32)) + a743) 1600 (xs_m (xw_i m811 28 ((a742 * (16 : Int32)) + a743).toNatClampNeg x810) fun m817 => gm_explore_l35 F a741 a742 k fu (a743 + (1 : Int32)) m817)) fun j812 => if (lg_cmp v787 (-1 : Int64)) = 0 then j812 (-1 : Int32) m788 else xc_m (gm_positionOf F v787 m788) fun v820 m821 => j812 v820 m821)
theorem gm_explore_l35_ok {xt : Nat → Nat × (Nat → Int32)} (n d : Nat) {F : Nat} {a741 : Int32} {a742 : Int32} {k : xm_S → Option (Int32 × xm_S)} {r : Int32} {m' : xm_S} 
    (hk : ∀ (m : xm_S), k m = some (r, m') → xm_Run pg xt (d + 4) 56 0 0 (xQ_i (sh n) r m') 104 [some (xv_r 26), some (xv_i a741), some (xv_i a742), none, none, none, none] [] (xq_2 (sh n) m) 0 0) :
    ∀ (fu : Nat) (a743 : Int32) (m740 : xm_S), gm_explore_l35 F a741 a742 k fu a743 m740 = some (r, m') → xm_Run pg xt (d + 4) 56 0 0 (xQ_i (sh n) r m') 35 [some (xv_r 26), some (xv_i a741), some (xv_i a742), some (xv_i a743), none, none, none] [] (xq_2 (sh n) m740) 0 0 := by
  intro fu
  induction fu with
  | zero => intro a743 m740 h; cases h
  | succ fu ih =>
    intro a743 m740 h
    rw [gm_explore_l35] at h
    refine xr_iload_n (in_56 rfl) rfl ?_
    refine xr_bipush_ _ (in_56 rfl) (show _ = (16 : Int32) by decide) ?_
    by_cases c744 : (16 : Int32) ≤ a743
    · replace h := (if_pos c744).symm.trans h
      refine xr_ict 104 (in_56 rfl) rfl c744 ?_
      refine xr_forget (loc' := [some (xv_r 26), some (xv_i a741), some (xv_i a742), none, none, none, none]) (xl_s (xl_s (xl_s (xl_o (xl_o (xl_o (xl_o xl_n))))))) ?_
      exact hk m740 h
    · replace h := (if_neg c744).symm.trans h
      refine xr_icf 104 (in_56 rfl) rfl c744 ?_
      refine xr_aload_n (in_56 rfl) rfl ?_
      refine xr_aload_n (in_56 rfl) rfl ?_
      refine xq_getr (in_56 rfl) (fo_56 rfl) (sh_26 n) rfl ?_
      refine xr_iload_n (in_56 rfl) rfl ?_
      obtain ⟨o745, h⟩ := xg_e h
      refine xq_lald (in_56 rfl) (sh_27 n) o745 ?_
      refine xr_iload_n (in_56 rfl) rfl ?_
      refine xr_iload_n (in_56 rfl) rfl ?_
      obtain ⟨v787, m788, e789, h⟩ := xc_m_e h
      refine xq_calla [xv_r 26, xv_l (m740.2 27 a742.toNatClampNeg), xv_i a743, xv_i a741] [] [some (xv_r 26), some (xv_l (m740.2 27 a742.toNatClampNeg)), none, some (xv_i a743), some (xv_i a741), none, none, none, none, none] (xk_V (in_56 rfl) (sh_26 n)) (cl_56 rfl) rfl rfl rfl rfl (gm_rowAfter_ok n d e789) ?_
      refine xr_lstore [some (xv_r 26), some (xv_i a741), some (xv_i a742), some (xv_i a743), some (xv_l v787), none, none] (in_56 rfl) (nl_56 rfl) rfl ?_
      refine xr_lload (in_56 rfl) rfl ?_
      refine xr_ldc2 (in_56 rfl) (ko_56 rfl) ?_
      refine xr_lcmp (in_56 rfl) ?_
      obtain ⟨j812, e813, h⟩ := xj_e h
      have q814 : ∀ (x810 : Int32) (m811 : xm_S), j812 x810 m811 = some (r, m') → xm_Run pg xt (d + 4) 56 0 0 (xQ_i (sh n) r m') 74 [some (xv_r 26), some (xv_i a741), some (xv_i a742), some (xv_i a743), none, none, none] [xv_i x810] (xq_2 (sh n) m811) 0 0 := by
        intro x810 m811 h
        rw [e813] at h
        refine xr_istore [some (xv_r 26), some (xv_i a741), some (xv_i a742), some (xv_i a743), none, none, some (xv_i x810)] (in_56 rfl) (nl_56 rfl) rfl ?_
        refine xr_iload (in_56 rfl) rfl ?_
        refine xr_bipush_ _ (in_56 rfl) (show _ = (-2 : Int32) by decide) ?_
        by_cases c815 : x810 = (-2 : Int32)
        · replace h := (if_pos c815).symm.trans h
          refine xr_icf 85 (in_56 rfl) rfl (fun q => q c815) ?_
          refine xr_iconst_ _ (in_56 rfl) (show _ = (0 : Int32) by decide) ?_
          obtain ⟨rfl, rfl⟩ := Prod.mk.inj (Option.some.inj h)
          exact xr_zret (kd_56) (in_56 rfl) (by decide) (Nat.le_refl _) (Nat.le_refl _) ⟨rfl, rfl⟩
        · replace h := (if_neg c815).symm.trans h
          refine xr_ict 85 (in_56 rfl) rfl c815 ?_
          refine xr_aload_n (in_56 rfl) rfl ?_
          refine xq_getr (in_56 rfl) (fo_56 rfl) (sh_26 n) rfl ?_
          refine xr_iload_n (in_56 rfl) rfl ?_
          refine xr_bipush_ _ (in_56 rfl) (show _ = (16 : Int32) by decide) ?_
          refine xr_imul (in_56 rfl) ?_
          refine xr_iload_n (in_56 rfl) rfl ?_
          refine xr_iadd (in_56 rfl) ?_
          refine xr_iload (in_56 rfl) rfl ?_
          obtain ⟨o816, h⟩ := xg_e h
          refine xq_iast (in_56 rfl) (sh_28 n) o816 ?_
          obtain ⟨m817, e818, h⟩ := xs_e h
          rw [← e818]
          clear e818
          refine xr_iinc (a743 + (1 : Int32)) [some (xv_r 26), some (xv_i a741), some (xv_i a742), some (xv_i (a743 + (1 : Int32))), none, none, some (xv_i x810)] (in_56 rfl) rfl (xi_1 _) (nl_56 rfl) rfl ?_
          refine xr_goto 35 (in_56 rfl) rfl ?_
          refine xr_forget (loc' := [some (xv_r 26), some (xv_i a741), some (xv_i a742), some (xv_i (a743 + (1 : Int32))), none, none, none]) (xl_s (xl_s (xl_s (xl_s (xl_o (xl_o (xl_o xl_n))))))) ?_
          exact ih (a743 + (1 : Int32)) m817 h
      clear e813
      by_cases c819 : (lg_cmp v787 (-1 : Int64)) = 0
      · replace h := (if_pos c819).symm.trans h
        refine xr_iff 68 (in_56 rfl) rfl (fun q => q c819) ?_
        refine xr_iconst_ _ (in_56 rfl) (show _ = (-1 : Int32) by decide) ?_
        refine xr_goto 74 (in_56 rfl) rfl ?_
        refine xr_forget (loc' := [some (xv_r 26), some (xv_i a741), some (xv_i a742), some (xv_i a743), none, none, none]) (xl_s (xl_s (xl_s (xl_s (xl_o (xl_o (xl_o xl_n))))))) ?_
        exact q814 (-1 : Int32) m788 h
      · replace h := (if_neg c819).symm.trans h
        refine xr_ift 68 (in_56 rfl) rfl c819 ?_
        refine xr_aload_n (in_56 rfl) rfl ?_
        refine xr_lload (in_56 rfl) rfl ?_
        obtain ⟨v820, m821, e822, h⟩ := xc_m_e h
        refine xq_calla [xv_r 26, xv_l v787] [] [some (xv_r 26), some (xv_l v787), none, none] (xk_V (in_56 rfl) (sh_26 n)) (cl_56 rfl) rfl rfl rfl rfl (gm_positionOf_ok n (d + 3) e822) ?_
        refine xr_forget (loc' := [some (xv_r 26), some (xv_i a741), some (xv_i a742), some (xv_i a743), none, none, none]) (xl_s (xl_s (xl_s (xl_s (xl_o (xl_o (xl_o xl_n))))))) ?_
        exact q814 v820 m821 h
def gm_explore_l19 (F : Nat) (a736 : Int32) (k : xm_S → Option (Int32 × xm_S)) : Nat → Int32 → xm_S → Option (Int32 × xm_S)
  | 0, _, _ => none
  | fu + 1, a737, m735 => if (m735.1 26 2) ≤ a737 then k m735 else if (100 : Int32) ≤ a737 then k m735 else gm_explore_l35 F a736 a737 (fun (m824 : xm_S) => gm_explore_l19 F a736 k fu (a737 + (1 : Int32)) m824) F (0 : Int32) m735
theorem gm_explore_l19_ok {xt : Nat → Nat × (Nat → Int32)} (n d : Nat) {F : Nat} {a736 : Int32} {k : xm_S → Option (Int32 × xm_S)} {r : Int32} {m' : xm_S} 
    (hk : ∀ (m : xm_S), k m = some (r, m') → xm_Run pg xt (d + 4) 56 0 0 (xQ_i (sh n) r m') 110 [none, none, none, none, none, none, none] [] (xq_2 (sh n) m) 0 0) :
    ∀ (fu : Nat) (a737 : Int32) (m735 : xm_S), gm_explore_l19 F a736 k fu a737 m735 = some (r, m') → xm_Run pg xt (d + 4) 56 0 0 (xQ_i (sh n) r m') 19 [some (xv_r 26), some (xv_i a736), some (xv_i a737), none, none, none, none] [] (xq_2 (sh n) m735) 0 0 := by
  intro fu
  induction fu with
  | zero => intro a737 m735 h; cases h
  | succ fu ih =>
    intro a737 m735 h
    rw [gm_explore_l19] at h
    refine xr_iload_n (in_56 rfl) rfl ?_
    refine xr_aload_n (in_56 rfl) rfl ?_
    refine xq_geti (in_56 rfl) (fo_56 rfl) (sh_26 n) rfl ?_
    by_cases c738 : (m735.1 26 2) ≤ a737
    · replace h := (if_pos c738).symm.trans h
      refine xr_ict 110 (in_56 rfl) rfl c738 ?_
      refine xr_forget (loc' := [none, none, none, none, none, none, none]) (xl_o (xl_o (xl_o (xl_o (xl_o (xl_o (xl_o xl_n))))))) ?_
      exact hk m735 h
    · replace h := (if_neg c738).symm.trans h
      refine xr_icf 110 (in_56 rfl) rfl c738 ?_
      refine xr_iload_n (in_56 rfl) rfl ?_
      refine xr_bipush_ _ (in_56 rfl) (show _ = (100 : Int32) by decide) ?_
      by_cases c739 : (100 : Int32) ≤ a737
      · replace h := (if_pos c739).symm.trans h
        refine xr_ict 110 (in_56 rfl) rfl c739 ?_
        refine xr_forget (loc' := [none, none, none, none, none, none, none]) (xl_o (xl_o (xl_o (xl_o (xl_o (xl_o (xl_o xl_n))))))) ?_
        exact hk m735 h
      · replace h := (if_neg c739).symm.trans h
        refine xr_icf 110 (in_56 rfl) rfl c739 ?_
        refine xr_iconst_ _ (in_56 rfl) (show _ = (0 : Int32) by decide) ?_
        refine xr_istore_n [some (xv_r 26), some (xv_i a736), some (xv_i a737), some (xv_i (0 : Int32)), none, none, none] (in_56 rfl) (nl_56 rfl) rfl ?_
        refine gm_explore_l35_ok n d (fun m824 h => ?_) F (0 : Int32) m735 h
        refine xr_iinc (a737 + (1 : Int32)) [some (xv_r 26), some (xv_i a736), some (xv_i (a737 + (1 : Int32))), none, none, none, none] (in_56 rfl) rfl (xi_1 _) (nl_56 rfl) rfl ?_
        refine xr_goto 19 (in_56 rfl) rfl ?_
        exact ih (a737 + (1 : Int32)) m824 h
def gm_explore (F : Nat) (a1 : Int32) (m : xm_S) : Option (Int32 × xm_S) := xg_n (0 : Int32) 100 (xs_m (xw_l m 27 (0 : Int32).toNatClampNeg (gm_raised (0 : Int64) (0 : Int32) (0 : Int32))) fun m731 => xs_m (xw_i m731 26 2 (1 : Int32)) fun m733 => gm_explore_l19 F a1 (fun (m825 : xm_S) => some ((1 : Int32), m825)) F (0 : Int32) m733)
theorem gm_explore_ok {xt : Nat → Nat × (Nat → Int32)} (n d : Nat) {F : Nat} {a1 : Int32} {m m' : xm_S} {r : Int32} (h : gm_explore F a1 m = some (r, m')) : xm_Run pg xt (d + 4) 56 0 0 (xQ_i (sh n) r m') 0 [some (xv_r 26), some (xv_i a1), none, none, none, none, none] [] (xq_2 (sh n) m) 0 0 := by
  unfold gm_explore at h
  refine xr_aload_n (in_56 rfl) rfl ?_
  refine xq_getr (in_56 rfl) (fo_56 rfl) (sh_26 n) rfl ?_
  refine xr_iconst_ _ (in_56 rfl) (show _ = (0 : Int32) by decide) ?_
  refine xr_lconst_ _ (in_56 rfl) (show _ = (0 : Int64) by decide) ?_
  refine xr_iconst_ _ (in_56 rfl) (show _ = (0 : Int32) by decide) ?_
  refine xr_iconst_ _ (in_56 rfl) (show _ = (0 : Int32) by decide) ?_
  refine xq_calla [xv_l (0 : Int64), xv_i (0 : Int32), xv_i (0 : Int32)] [xv_i (0 : Int32), xv_r 27] [some (xv_l (0 : Int64)), none, some (xv_i (0 : Int32)), some (xv_i (0 : Int32)), none] (xk_S (in_56 rfl)) (cl_56 rfl) rfl rfl rfl rfl (gm_raised_ok n (d + 2) rfl) ?_
  obtain ⟨o730, h⟩ := xg_e h
  refine xq_last (in_56 rfl) (sh_27 n) o730 ?_
  obtain ⟨m731, e732, h⟩ := xs_e h
  rw [← e732]
  clear e732
  refine xr_aload_n (in_56 rfl) rfl ?_
  refine xr_iconst_ _ (in_56 rfl) (show _ = (1 : Int32) by decide) ?_
  refine xq_put (in_56 rfl) (fo_56 rfl) (sh_26 n) rfl (Or.inl rfl) ?_
  obtain ⟨m733, e734, h⟩ := xs_e h
  rw [← e734]
  clear e734
  refine xr_iconst_ _ (in_56 rfl) (show _ = (0 : Int32) by decide) ?_
  refine xr_istore_n [some (xv_r 26), some (xv_i a1), some (xv_i (0 : Int32)), none, none, none, none] (in_56 rfl) (nl_56 rfl) rfl ?_
  refine gm_explore_l19_ok n d (fun m825 h => ?_) F (0 : Int32) m733 h
  refine xr_iconst_ _ (in_56 rfl) (show _ = (1 : Int32) by decide) ?_
  obtain ⟨rfl, rfl⟩ := Prod.mk.inj (Option.some.inj h)
  exact xr_zret (kd_56) (in_56 rfl) (by decide) (Nat.le_refl _) (Nat.le_refl _) ⟨rfl, rfl⟩
def gm_follower (F : Nat) (a1 : Int32) (a2 : Int32) (a3 : Int32) (m : xm_S) : Option (Int32 × xm_S) := xg_n (((a1 * (16 : Int32)) + a2) + ((4 : Int32) * a3)) 1600 (some (m.1 28 (((a1 * (16 : Int32)) + a2) + ((4 : Int32) * a3)).toNatClampNeg, m))
theorem gm_follower_ok {xt : Nat → Nat × (Nat → Int32)} (n d : Nat) {F : Nat} {a1 : Int32} {a2 : Int32} {a3 : Int32} {m m' : xm_S} {r : Int32} (h : gm_follower F a1 a2 a3 m = some (r, m')) : xm_Run pg xt d 67 0 0 (xQ_i (sh n) r m') 0 [some (xv_r 26), some (xv_i a1), some (xv_i a2), some (xv_i a3)] [] (xq_2 (sh n) m) 0 0 := by
  unfold gm_follower at h
  refine xr_aload_n (in_67 rfl) rfl ?_
  refine xq_getr (in_67 rfl) (fo_67 rfl) (sh_26 n) rfl ?_
  refine xr_iload_n (in_67 rfl) rfl ?_
  refine xr_bipush_ _ (in_67 rfl) (show _ = (16 : Int32) by decide) ?_
  refine xr_imul (in_67 rfl) ?_
  refine xr_iload_n (in_67 rfl) rfl ?_
  refine xr_iadd (in_67 rfl) ?_
  refine xr_iconst_ _ (in_67 rfl) (show _ = (4 : Int32) by decide) ?_
  refine xr_iload_n (in_67 rfl) rfl ?_
  refine xr_imul (in_67 rfl) ?_
  refine xr_iadd (in_67 rfl) ?_
  obtain ⟨o864, h⟩ := xg_e h
  refine xq_iald (in_67 rfl) (sh_28 n) o864 ?_
  obtain ⟨rfl, rfl⟩ := Prod.mk.inj (Option.some.inj h)
  exact xr_iret (kd_67) (in_67 rfl) (Nat.le_refl _) (Nat.le_refl _) ⟨rfl, rfl⟩
def gm_isSafeBy (F : Nat) (a1 : Int32) (a2 : Int32) (a3 : Int32) (m : xm_S) : Option (Int32 × xm_S) := xc_m (gm_follower F a1 a2 a3 m) fun v865 m866 => if v865 = (-1 : Int32) then some ((0 : Int32), m866) else xg_n v865 100 (if (m866.1 29 v865.toNatClampNeg) = 0 then some ((0 : Int32), m866) else some ((1 : Int32), m866))
theorem gm_isSafeBy_ok {xt : Nat → Nat × (Nat → Int32)} (n d : Nat) {F : Nat} {a1 : Int32} {a2 : Int32} {a3 : Int32} {m m' : xm_S} {r : Int32} (h : gm_isSafeBy F a1 a2 a3 m = some (r, m')) : xm_Run pg xt (d + 1) 66 0 0 (xQ_i (sh n) r m') 0 [some (xv_r 26), some (xv_i a1), some (xv_i a2), some (xv_i a3), none] [] (xq_2 (sh n) m) 0 0 := by
  unfold gm_isSafeBy at h
  refine xr_aload_n (in_66 rfl) rfl ?_
  refine xr_iload_n (in_66 rfl) rfl ?_
  refine xr_iload_n (in_66 rfl) rfl ?_
  refine xr_iload_n (in_66 rfl) rfl ?_
  obtain ⟨v865, m866, e867, h⟩ := xc_m_e h
  refine xq_calla [xv_r 26, xv_i a1, xv_i a2, xv_i a3] [] [some (xv_r 26), some (xv_i a1), some (xv_i a2), some (xv_i a3)] (xk_V (in_66 rfl) (sh_26 n)) (cl_66 rfl) rfl rfl rfl rfl (gm_follower_ok n d e867) ?_
  refine xr_istore [some (xv_r 26), some (xv_i a1), some (xv_i a2), some (xv_i a3), some (xv_i v865)] (in_66 rfl) (nl_66 rfl) rfl ?_
  refine xr_iload (in_66 rfl) rfl ?_
  refine xr_iconst_ _ (in_66 rfl) (show _ = (-1 : Int32) by decide) ?_
  by_cases c869 : v865 = (-1 : Int32)
  · replace h := (if_pos c869).symm.trans h
    refine xr_ict 29 (in_66 rfl) rfl c869 ?_
    refine xr_iconst_ _ (in_66 rfl) (show _ = (0 : Int32) by decide) ?_
    obtain ⟨rfl, rfl⟩ := Prod.mk.inj (Option.some.inj h)
    exact xr_zret (kd_66) (in_66 rfl) (by decide) (Nat.le_refl _) (Nat.le_refl _) ⟨rfl, rfl⟩
  · replace h := (if_neg c869).symm.trans h
    refine xr_icf 29 (in_66 rfl) rfl c869 ?_
    refine xr_aload_n (in_66 rfl) rfl ?_
    refine xq_getr (in_66 rfl) (fo_66 rfl) (sh_26 n) rfl ?_
    refine xr_iload (in_66 rfl) rfl ?_
    obtain ⟨o870, h⟩ := xg_e h
    refine xq_bald (in_66 rfl) (sh_29 n) o870 ?_
    by_cases c871 : (m866.1 29 v865.toNatClampNeg) = 0
    · replace h := (if_pos c871).symm.trans h
      refine xr_ift 29 (in_66 rfl) rfl c871 ?_
      refine xr_iconst_ _ (in_66 rfl) (show _ = (0 : Int32) by decide) ?_
      obtain ⟨rfl, rfl⟩ := Prod.mk.inj (Option.some.inj h)
      exact xr_zret (kd_66) (in_66 rfl) (by decide) (Nat.le_refl _) (Nat.le_refl _) ⟨rfl, rfl⟩
    · replace h := (if_neg c871).symm.trans h
      refine xr_iff 29 (in_66 rfl) rfl c871 ?_
      refine xr_iconst_ _ (in_66 rfl) (show _ = (1 : Int32) by decide) ?_
      refine xr_goto 30 (in_66 rfl) rfl ?_
      obtain ⟨rfl, rfl⟩ := Prod.mk.inj (Option.some.inj h)
      exact xr_zret (kd_66) (in_66 rfl) (by decide) (Nat.le_refl _) (Nat.le_refl _) ⟨rfl, rfl⟩
def gm_safeOutput_l2 (F : Nat) (a860 : Int32) (a861 : Int32) (k : xm_S → Option (Int32 × xm_S)) : Nat → Int32 → xm_S → Option (Int32 × xm_S)
  | 0, _, _ => none
  | fu + 1, a862, m859 => if (4 : Int32) ≤ a862 then k m859 else xc_m (gm_isSafeBy F a860 a861 a862 m859) fun v872 m873 => if v872 = 0 then gm_safeOutput_l2 F a860 a861 k fu (a862 + (1 : Int32)) m873 else some (a862, m873)
theorem gm_safeOutput_l2_ok {xt : Nat → Nat × (Nat → Int32)} (n d : Nat) {F : Nat} {a860 : Int32} {a861 : Int32} {k : xm_S → Option (Int32 × xm_S)} {r : Int32} {m' : xm_S} 
    (hk : ∀ (m : xm_S), k m = some (r, m') → xm_Run pg xt (d + 2) 68 0 0 (xQ_i (sh n) r m') 25 [none, none, none, none] [] (xq_2 (sh n) m) 0 0) :
    ∀ (fu : Nat) (a862 : Int32) (m859 : xm_S), gm_safeOutput_l2 F a860 a861 k fu a862 m859 = some (r, m') → xm_Run pg xt (d + 2) 68 0 0 (xQ_i (sh n) r m') 2 [some (xv_r 26), some (xv_i a860), some (xv_i a861), some (xv_i a862)] [] (xq_2 (sh n) m859) 0 0 := by
  intro fu
  induction fu with
  | zero => intro a862 m859 h; cases h
  | succ fu ih =>
    intro a862 m859 h
    rw [gm_safeOutput_l2] at h
    refine xr_iload_n (in_68 rfl) rfl ?_
    refine xr_iconst_ _ (in_68 rfl) (show _ = (4 : Int32) by decide) ?_
    by_cases c863 : (4 : Int32) ≤ a862
    · replace h := (if_pos c863).symm.trans h
      refine xr_ict 25 (in_68 rfl) rfl c863 ?_
      refine xr_forget (loc' := [none, none, none, none]) (xl_o (xl_o (xl_o (xl_o xl_n)))) ?_
      exact hk m859 h
    · replace h := (if_neg c863).symm.trans h
      refine xr_icf 25 (in_68 rfl) rfl c863 ?_
      refine xr_aload_n (in_68 rfl) rfl ?_
      refine xr_iload_n (in_68 rfl) rfl ?_
      refine xr_iload_n (in_68 rfl) rfl ?_
      refine xr_iload_n (in_68 rfl) rfl ?_
      obtain ⟨v872, m873, e874, h⟩ := xc_m_e h
      refine xq_calla [xv_r 26, xv_i a860, xv_i a861, xv_i a862] [] [some (xv_r 26), some (xv_i a860), some (xv_i a861), some (xv_i a862), none] (xk_V (in_68 rfl) (sh_26 n)) (cl_68 rfl) rfl rfl rfl rfl (gm_isSafeBy_ok n d e874) ?_
      by_cases c876 : v872 = 0
      · replace h := (if_pos c876).symm.trans h
        refine xr_ift 19 (in_68 rfl) rfl c876 ?_
        refine xr_iinc (a862 + (1 : Int32)) [some (xv_r 26), some (xv_i a860), some (xv_i a861), some (xv_i (a862 + (1 : Int32)))] (in_68 rfl) rfl (xi_1 _) (nl_68 rfl) rfl ?_
        refine xr_goto 2 (in_68 rfl) rfl ?_
        exact ih (a862 + (1 : Int32)) m873 h
      · replace h := (if_neg c876).symm.trans h
        refine xr_iff 19 (in_68 rfl) rfl c876 ?_
        refine xr_iload_n (in_68 rfl) rfl ?_
        obtain ⟨rfl, rfl⟩ := Prod.mk.inj (Option.some.inj h)
        exact xr_iret (kd_68) (in_68 rfl) (Nat.le_refl _) (Nat.le_refl _) ⟨rfl, rfl⟩
def gm_safeOutput (F : Nat) (a1 : Int32) (a2 : Int32) (m : xm_S) : Option (Int32 × xm_S) := gm_safeOutput_l2 F a1 a2 (fun (m877 : xm_S) => some ((-1 : Int32), m877)) F (0 : Int32) m
theorem gm_safeOutput_ok {xt : Nat → Nat × (Nat → Int32)} (n d : Nat) {F : Nat} {a1 : Int32} {a2 : Int32} {m m' : xm_S} {r : Int32} (h : gm_safeOutput F a1 a2 m = some (r, m')) : xm_Run pg xt (d + 2) 68 0 0 (xQ_i (sh n) r m') 0 [some (xv_r 26), some (xv_i a1), some (xv_i a2), none] [] (xq_2 (sh n) m) 0 0 := by
  unfold gm_safeOutput at h
  refine xr_iconst_ _ (in_68 rfl) (show _ = (0 : Int32) by decide) ?_
  refine xr_istore_n [some (xv_r 26), some (xv_i a1), some (xv_i a2), some (xv_i (0 : Int32))] (in_68 rfl) (nl_68 rfl) rfl ?_
  refine gm_safeOutput_l2_ok n d (fun m877 h => ?_) F (0 : Int32) m h
  refine xr_iconst_ _ (in_68 rfl) (show _ = (-1 : Int32) by decide) ?_
  obtain ⟨rfl, rfl⟩ := Prod.mk.inj (Option.some.inj h)
  exact xr_iret (kd_68) (in_68 rfl) (Nat.le_refl _) (Nat.le_refl _) ⟨rfl, rfl⟩
def gm_safeInput_l12 (F : Nat) (a889 : Int32) (a890 : Int32) (k : Int32 → xm_S → Option (Int32 × xm_S)) : Nat → Int32 → Int32 → xm_S → Option (Int32 × xm_S)
  | 0, _, _, _ => none
  | fu + 1, a891, a892, m888 => if (4 : Int32) ≤ a892 then k a891 m888 else if a891 = 0 then k a891 m888 else xc_m (gm_isSafeBy F a889 a890 a892 m888) fun v895 m896 => gm_safeInput_l12 F a889 a890 k fu v895 (a892 + (1 : Int32)) m896
theorem gm_safeInput_l12_ok {xt : Nat → Nat × (Nat → Int32)} (n d : Nat) {F : Nat} {a889 : Int32} {a890 : Int32} {k : Int32 → xm_S → Option (Int32 × xm_S)} {r : Int32} {m' : xm_S} 
    (hk : ∀ (z3 : Int32) (m : xm_S), k z3 m = some (r, m') → xm_Run pg xt (d + 2) 65 0 0 (xQ_i (sh n) r m') 37 [some (xv_r 26), some (xv_i a889), some (xv_i a890), some (xv_i z3), none] [] (xq_2 (sh n) m) 0 0) :
    ∀ (fu : Nat) (a891 : Int32) (a892 : Int32) (m888 : xm_S), gm_safeInput_l12 F a889 a890 k fu a891 a892 m888 = some (r, m') → xm_Run pg xt (d + 2) 65 0 0 (xQ_i (sh n) r m') 12 [some (xv_r 26), some (xv_i a889), some (xv_i a890), some (xv_i a891), some (xv_i a892)] [] (xq_2 (sh n) m888) 0 0 := by
  intro fu
  induction fu with
  | zero => intro a891 a892 m888 h; cases h
  | succ fu ih =>
    intro a891 a892 m888 h
    rw [gm_safeInput_l12] at h
    refine xr_iload (in_65 rfl) rfl ?_
    refine xr_iconst_ _ (in_65 rfl) (show _ = (4 : Int32) by decide) ?_
    by_cases c893 : (4 : Int32) ≤ a892
    · replace h := (if_pos c893).symm.trans h
      refine xr_ict 37 (in_65 rfl) rfl c893 ?_
      refine xr_forget (loc' := [some (xv_r 26), some (xv_i a889), some (xv_i a890), some (xv_i a891), none]) (xl_s (xl_s (xl_s (xl_s (xl_o xl_n))))) ?_
      exact hk a891 m888 h
    · replace h := (if_neg c893).symm.trans h
      refine xr_icf 37 (in_65 rfl) rfl c893 ?_
      refine xr_iload_n (in_65 rfl) rfl ?_
      by_cases c894 : a891 = 0
      · replace h := (if_pos c894).symm.trans h
        refine xr_ift 37 (in_65 rfl) rfl c894 ?_
        refine xr_forget (loc' := [some (xv_r 26), some (xv_i a889), some (xv_i a890), some (xv_i a891), none]) (xl_s (xl_s (xl_s (xl_s (xl_o xl_n))))) ?_
        exact hk a891 m888 h
      · replace h := (if_neg c894).symm.trans h
        refine xr_iff 37 (in_65 rfl) rfl c894 ?_
        refine xr_aload_n (in_65 rfl) rfl ?_
        refine xr_iload_n (in_65 rfl) rfl ?_
        refine xr_iload_n (in_65 rfl) rfl ?_
        refine xr_iload (in_65 rfl) rfl ?_
        obtain ⟨v895, m896, e897, h⟩ := xc_m_e h
        refine xq_calla [xv_r 26, xv_i a889, xv_i a890, xv_i a892] [] [some (xv_r 26), some (xv_i a889), some (xv_i a890), some (xv_i a892), none] (xk_V (in_65 rfl) (sh_26 n)) (cl_65 rfl) rfl rfl rfl rfl (gm_isSafeBy_ok n d e897) ?_
        refine xr_istore_n [some (xv_r 26), some (xv_i a889), some (xv_i a890), some (xv_i v895), some (xv_i a892)] (in_65 rfl) (nl_65 rfl) rfl ?_
        refine xr_iinc (a892 + (1 : Int32)) [some (xv_r 26), some (xv_i a889), some (xv_i a890), some (xv_i v895), some (xv_i (a892 + (1 : Int32)))] (in_65 rfl) rfl (xi_1 _) (nl_65 rfl) rfl ?_
        refine xr_goto 12 (in_65 rfl) rfl ?_
        exact ih v895 (a892 + (1 : Int32)) m896 h
def gm_safeInput_l2 (F : Nat) (a885 : Int32) (k : xm_S → Option (Int32 × xm_S)) : Nat → Int32 → xm_S → Option (Int32 × xm_S)
  | 0, _, _ => none
  | fu + 1, a886, m884 => if (4 : Int32) ≤ a886 then k m884 else gm_safeInput_l12 F a885 a886 (fun (x899 : Int32) (m900 : xm_S) => if x899 = 0 then gm_safeInput_l2 F a885 k fu (a886 + (1 : Int32)) m900 else some (a886, m900)) F (1 : Int32) (0 : Int32) m884
theorem gm_safeInput_l2_ok {xt : Nat → Nat × (Nat → Int32)} (n d : Nat) {F : Nat} {a885 : Int32} {k : xm_S → Option (Int32 × xm_S)} {r : Int32} {m' : xm_S} 
    (hk : ∀ (m : xm_S), k m = some (r, m') → xm_Run pg xt (d + 2) 65 0 0 (xQ_i (sh n) r m') 49 [none, none, none, none, none] [] (xq_2 (sh n) m) 0 0) :
    ∀ (fu : Nat) (a886 : Int32) (m884 : xm_S), gm_safeInput_l2 F a885 k fu a886 m884 = some (r, m') → xm_Run pg xt (d + 2) 65 0 0 (xQ_i (sh n) r m') 2 [some (xv_r 26), some (xv_i a885), some (xv_i a886), none, none] [] (xq_2 (sh n) m884) 0 0 := by
  intro fu
  induction fu with
  | zero => intro a886 m884 h; cases h
  | succ fu ih =>
    intro a886 m884 h
    rw [gm_safeInput_l2] at h
    refine xr_iload_n (in_65 rfl) rfl ?_
    refine xr_iconst_ _ (in_65 rfl) (show _ = (4 : Int32) by decide) ?_
    by_cases c887 : (4 : Int32) ≤ a886
    · replace h := (if_pos c887).symm.trans h
      refine xr_ict 49 (in_65 rfl) rfl c887 ?_
      refine xr_forget (loc' := [none, none, none, none, none]) (xl_o (xl_o (xl_o (xl_o (xl_o xl_n))))) ?_
      exact hk m884 h
    · replace h := (if_neg c887).symm.trans h
      refine xr_icf 49 (in_65 rfl) rfl c887 ?_
      refine xr_iconst_ _ (in_65 rfl) (show _ = (1 : Int32) by decide) ?_
      refine xr_istore_n [some (xv_r 26), some (xv_i a885), some (xv_i a886), some (xv_i (1 : Int32)), none] (in_65 rfl) (nl_65 rfl) rfl ?_
      refine xr_iconst_ _ (in_65 rfl) (show _ = (0 : Int32) by decide) ?_
      refine xr_istore [some (xv_r 26), some (xv_i a885), some (xv_i a886), some (xv_i (1 : Int32)), some (xv_i (0 : Int32))] (in_65 rfl) (nl_65 rfl) rfl ?_
      refine gm_safeInput_l12_ok n d (fun x899 m900 h => ?_) F (1 : Int32) (0 : Int32) m884 h
      refine xr_iload_n (in_65 rfl) rfl ?_
      by_cases c901 : x899 = 0
      · replace h := (if_pos c901).symm.trans h
        refine xr_ift 43 (in_65 rfl) rfl c901 ?_
        refine xr_iinc (a886 + (1 : Int32)) [some (xv_r 26), some (xv_i a885), some (xv_i (a886 + (1 : Int32))), some (xv_i x899), none] (in_65 rfl) rfl (xi_1 _) (nl_65 rfl) rfl ?_
        refine xr_goto 2 (in_65 rfl) rfl ?_
        refine xr_forget (loc' := [some (xv_r 26), some (xv_i a885), some (xv_i (a886 + (1 : Int32))), none, none]) (xl_s (xl_s (xl_s (xl_o (xl_o xl_n))))) ?_
        exact ih (a886 + (1 : Int32)) m900 h
      · replace h := (if_neg c901).symm.trans h
        refine xr_iff 43 (in_65 rfl) rfl c901 ?_
        refine xr_iload_n (in_65 rfl) rfl ?_
        obtain ⟨rfl, rfl⟩ := Prod.mk.inj (Option.some.inj h)
        exact xr_iret (kd_65) (in_65 rfl) (Nat.le_refl _) (Nat.le_refl _) ⟨rfl, rfl⟩
def gm_safeInput (F : Nat) (a1 : Int32) (m : xm_S) : Option (Int32 × xm_S) := gm_safeInput_l2 F a1 (fun (m902 : xm_S) => some ((-1 : Int32), m902)) F (0 : Int32) m
theorem gm_safeInput_ok {xt : Nat → Nat × (Nat → Int32)} (n d : Nat) {F : Nat} {a1 : Int32} {m m' : xm_S} {r : Int32} (h : gm_safeInput F a1 m = some (r, m')) : xm_Run pg xt (d + 2) 65 0 0 (xQ_i (sh n) r m') 0 [some (xv_r 26), some (xv_i a1), none, none, none] [] (xq_2 (sh n) m) 0 0 := by
  unfold gm_safeInput at h
  refine xr_iconst_ _ (in_65 rfl) (show _ = (0 : Int32) by decide) ?_
  refine xr_istore_n [some (xv_r 26), some (xv_i a1), some (xv_i (0 : Int32)), none, none] (in_65 rfl) (nl_65 rfl) rfl ?_
  refine gm_safeInput_l2_ok n d (fun m902 h => ?_) F (0 : Int32) m h
  refine xr_iconst_ _ (in_65 rfl) (show _ = (-1 : Int32) by decide) ?_
  obtain ⟨rfl, rfl⟩ := Prod.mk.inj (Option.some.inj h)
  exact xr_iret (kd_65) (in_65 rfl) (Nat.le_refl _) (Nat.le_refl _) ⟨rfl, rfl⟩
def gm_canStaySafe_l22 (F : Nat) (a856 : Int32) (k : xm_S → Option (Int32 × xm_S)) : Nat → Int32 → xm_S → Option (Int32 × xm_S)
  | 0, _, _ => none
  | fu + 1, a857, m855 => if (4 : Int32) ≤ a857 then k m855 else xc_m (gm_safeOutput F a856 a857 m855) fun v878 m879 => if v878 = (-1 : Int32) then some ((0 : Int32), m879) else gm_canStaySafe_l22 F a856 k fu (a857 + (1 : Int32)) m879
theorem gm_canStaySafe_l22_ok {xt : Nat → Nat × (Nat → Int32)} (n d : Nat) {F : Nat} {a856 : Int32} {k : xm_S → Option (Int32 × xm_S)} {r : Int32} {m' : xm_S} 
    (hk : ∀ (m : xm_S), k m = some (r, m') → xm_Run pg xt (d + 3) 64 0 0 (xQ_i (sh n) r m') 45 [none, none, none, none] [] (xq_2 (sh n) m) 0 0) :
    ∀ (fu : Nat) (a857 : Int32) (m855 : xm_S), gm_canStaySafe_l22 F a856 k fu a857 m855 = some (r, m') → xm_Run pg xt (d + 3) 64 0 0 (xQ_i (sh n) r m') 22 [some (xv_r 26), some (xv_i a856), none, some (xv_i a857)] [] (xq_2 (sh n) m855) 0 0 := by
  intro fu
  induction fu with
  | zero => intro a857 m855 h; cases h
  | succ fu ih =>
    intro a857 m855 h
    rw [gm_canStaySafe_l22] at h
    refine xr_iload_n (in_64 rfl) rfl ?_
    refine xr_iconst_ _ (in_64 rfl) (show _ = (4 : Int32) by decide) ?_
    by_cases c858 : (4 : Int32) ≤ a857
    · replace h := (if_pos c858).symm.trans h
      refine xr_ict 45 (in_64 rfl) rfl c858 ?_
      refine xr_forget (loc' := [none, none, none, none]) (xl_o (xl_o (xl_o (xl_o xl_n)))) ?_
      exact hk m855 h
    · replace h := (if_neg c858).symm.trans h
      refine xr_icf 45 (in_64 rfl) rfl c858 ?_
      refine xr_aload_n (in_64 rfl) rfl ?_
      refine xr_iload_n (in_64 rfl) rfl ?_
      refine xr_iload_n (in_64 rfl) rfl ?_
      obtain ⟨v878, m879, e880, h⟩ := xc_m_e h
      refine xq_calla [xv_r 26, xv_i a856, xv_i a857] [] [some (xv_r 26), some (xv_i a856), some (xv_i a857), none] (xk_V (in_64 rfl) (sh_26 n)) (cl_64 rfl) rfl rfl rfl rfl (gm_safeOutput_ok n d e880) ?_
      refine xr_iconst_ _ (in_64 rfl) (show _ = (-1 : Int32) by decide) ?_
      by_cases c882 : v878 = (-1 : Int32)
      · replace h := (if_pos c882).symm.trans h
        refine xr_icf 39 (in_64 rfl) rfl (fun q => q c882) ?_
        refine xr_iconst_ _ (in_64 rfl) (show _ = (0 : Int32) by decide) ?_
        obtain ⟨rfl, rfl⟩ := Prod.mk.inj (Option.some.inj h)
        exact xr_zret (kd_64) (in_64 rfl) (by decide) (Nat.le_refl _) (Nat.le_refl _) ⟨rfl, rfl⟩
      · replace h := (if_neg c882).symm.trans h
        refine xr_ict 39 (in_64 rfl) rfl c882 ?_
        refine xr_iinc (a857 + (1 : Int32)) [some (xv_r 26), some (xv_i a856), none, some (xv_i (a857 + (1 : Int32)))] (in_64 rfl) rfl (xi_1 _) (nl_64 rfl) rfl ?_
        refine xr_goto 22 (in_64 rfl) rfl ?_
        exact ih (a857 + (1 : Int32)) m879 h
def gm_canStaySafe (F : Nat) (a1 : Int32) (a2 : Int32) (m : xm_S) : Option (Int32 × xm_S) := if a2 = (2 : Int32) then xc_m (gm_safeInput F a1 m) fun v903 m904 => if v903 = (-1 : Int32) then some ((0 : Int32), m904) else some ((1 : Int32), m904) else gm_canStaySafe_l22 F a1 (fun (m883 : xm_S) => some ((1 : Int32), m883)) F (0 : Int32) m
theorem gm_canStaySafe_ok {xt : Nat → Nat × (Nat → Int32)} (n d : Nat) {F : Nat} {a1 : Int32} {a2 : Int32} {m m' : xm_S} {r : Int32} (h : gm_canStaySafe F a1 a2 m = some (r, m')) : xm_Run pg xt (d + 3) 64 0 0 (xQ_i (sh n) r m') 0 [some (xv_r 26), some (xv_i a1), some (xv_i a2), none] [] (xq_2 (sh n) m) 0 0 := by
  unfold gm_canStaySafe at h
  refine xr_iload_n (in_64 rfl) rfl ?_
  refine xr_iconst_ _ (in_64 rfl) (show _ = (2 : Int32) by decide) ?_
  by_cases c854 : a2 = (2 : Int32)
  · replace h := (if_pos c854).symm.trans h
    refine xr_icf 20 (in_64 rfl) rfl (fun q => q c854) ?_
    refine xr_aload_n (in_64 rfl) rfl ?_
    refine xr_iload_n (in_64 rfl) rfl ?_
    obtain ⟨v903, m904, e905, h⟩ := xc_m_e h
    refine xq_calla [xv_r 26, xv_i a1] [] [some (xv_r 26), some (xv_i a1), none, none, none] (xk_V (in_64 rfl) (sh_26 n)) (cl_64 rfl) rfl rfl rfl rfl (gm_safeInput_ok n d e905) ?_
    refine xr_iconst_ _ (in_64 rfl) (show _ = (-1 : Int32) by decide) ?_
    by_cases c907 : v903 = (-1 : Int32)
    · replace h := (if_pos c907).symm.trans h
      refine xr_ict 18 (in_64 rfl) rfl c907 ?_
      refine xr_iconst_ _ (in_64 rfl) (show _ = (0 : Int32) by decide) ?_
      obtain ⟨rfl, rfl⟩ := Prod.mk.inj (Option.some.inj h)
      exact xr_zret (kd_64) (in_64 rfl) (by decide) (Nat.le_refl _) (Nat.le_refl _) ⟨rfl, rfl⟩
    · replace h := (if_neg c907).symm.trans h
      refine xr_icf 18 (in_64 rfl) rfl c907 ?_
      refine xr_iconst_ _ (in_64 rfl) (show _ = (1 : Int32) by decide) ?_
      refine xr_goto 19 (in_64 rfl) rfl ?_
      obtain ⟨rfl, rfl⟩ := Prod.mk.inj (Option.some.inj h)
      exact xr_zret (kd_64) (in_64 rfl) (by decide) (Nat.le_refl _) (Nat.le_refl _) ⟨rfl, rfl⟩
  · replace h := (if_neg c854).symm.trans h
    refine xr_ict 20 (in_64 rfl) rfl c854 ?_
    refine xr_iconst_ _ (in_64 rfl) (show _ = (0 : Int32) by decide) ?_
    refine xr_istore_n [some (xv_r 26), some (xv_i a1), some (xv_i a2), some (xv_i (0 : Int32))] (in_64 rfl) (nl_64 rfl) rfl ?_
    refine xr_forget (loc' := [some (xv_r 26), some (xv_i a1), none, some (xv_i (0 : Int32))]) (xl_s (xl_s (xl_o (xl_s xl_n)))) ?_
    refine gm_canStaySafe_l22_ok n d (fun m883 h => ?_) F (0 : Int32) m h
    refine xr_iconst_ _ (in_64 rfl) (show _ = (1 : Int32) by decide) ?_
    obtain ⟨rfl, rfl⟩ := Prod.mk.inj (Option.some.inj h)
    exact xr_zret (kd_64) (in_64 rfl) (by decide) (Nat.le_refl _) (Nat.le_refl _) ⟨rfl, rfl⟩
def gm_dropUnsafe_l7 (F : Nat) (a848 : Int32) (a849 : Int32) (k : xm_S → Option (Int32 × xm_S)) : Nat → Int32 → xm_S → Option (Int32 × xm_S)
  | 0, _, _ => none
  | fu + 1, a850, m847 => if (m847.1 26 2) ≤ a850 then k m847 else xg_n a850 100 (if (m847.1 29 a850.toNatClampNeg) = 0 then gm_dropUnsafe_l7 F a848 a849 k fu (a850 + (1 : Int32)) m847 else xc_m (gm_canStaySafe F a850 a848 m847) fun v908 m909 => if v908 = 0 then xg_n a850 100 (xs_m (xw_i m909 29 a850.toNatClampNeg (0 : Int32)) fun m914 => xs_m (xw_i m914 26 5 ((m914.1 26 5) - (1 : Int32))) fun m916 => gm_dropUnsafe_l7 F a848 a849 k fu (a850 + (1 : Int32)) m916) else gm_dropUnsafe_l7 F a848 a849 k fu (a850 + (1 : Int32)) m909)
theorem gm_dropUnsafe_l7_ok {xt : Nat → Nat × (Nat → Int32)} (n d : Nat) {F : Nat} {a848 : Int32} {a849 : Int32} {k : xm_S → Option (Int32 × xm_S)} {r : Int32} {m' : xm_S} 
    (hk : ∀ (m : xm_S), k m = some (r, m') → xm_Run pg xt (d + 4) 63 0 0 (xQ_i (sh n) r m') 56 [some (xv_r 26), none, some (xv_i a849), none] [] (xq_2 (sh n) m) 0 0) :
    ∀ (fu : Nat) (a850 : Int32) (m847 : xm_S), gm_dropUnsafe_l7 F a848 a849 k fu a850 m847 = some (r, m') → xm_Run pg xt (d + 4) 63 0 0 (xQ_i (sh n) r m') 7 [some (xv_r 26), some (xv_i a848), some (xv_i a849), some (xv_i a850)] [] (xq_2 (sh n) m847) 0 0 := by
  intro fu
  induction fu with
  | zero => intro a850 m847 h; cases h
  | succ fu ih =>
    intro a850 m847 h
    rw [gm_dropUnsafe_l7] at h
    refine xr_iload_n (in_63 rfl) rfl ?_
    refine xr_aload_n (in_63 rfl) rfl ?_
    refine xq_geti (in_63 rfl) (fo_63 rfl) (sh_26 n) rfl ?_
    by_cases c851 : (m847.1 26 2) ≤ a850
    · replace h := (if_pos c851).symm.trans h
      refine xr_ict 56 (in_63 rfl) rfl c851 ?_
      refine xr_forget (loc' := [some (xv_r 26), none, some (xv_i a849), none]) (xl_s (xl_o (xl_s (xl_o xl_n)))) ?_
      exact hk m847 h
    · replace h := (if_neg c851).symm.trans h
      refine xr_icf 56 (in_63 rfl) rfl c851 ?_
      refine xr_aload_n (in_63 rfl) rfl ?_
      refine xq_getr (in_63 rfl) (fo_63 rfl) (sh_26 n) rfl ?_
      refine xr_iload_n (in_63 rfl) rfl ?_
      obtain ⟨o852, h⟩ := xg_e h
      refine xq_bald (in_63 rfl) (sh_29 n) o852 ?_
      by_cases c853 : (m847.1 29 a850.toNatClampNeg) = 0
      · replace h := (if_pos c853).symm.trans h
        refine xr_ift 50 (in_63 rfl) rfl c853 ?_
        refine xr_iinc (a850 + (1 : Int32)) [some (xv_r 26), some (xv_i a848), some (xv_i a849), some (xv_i (a850 + (1 : Int32)))] (in_63 rfl) rfl (xi_1 _) (nl_63 rfl) rfl ?_
        refine xr_goto 7 (in_63 rfl) rfl ?_
        exact ih (a850 + (1 : Int32)) m847 h
      · replace h := (if_neg c853).symm.trans h
        refine xr_iff 50 (in_63 rfl) rfl c853 ?_
        refine xr_aload_n (in_63 rfl) rfl ?_
        refine xr_iload_n (in_63 rfl) rfl ?_
        refine xr_iload_n (in_63 rfl) rfl ?_
        obtain ⟨v908, m909, e910, h⟩ := xc_m_e h
        refine xq_calla [xv_r 26, xv_i a850, xv_i a848] [] [some (xv_r 26), some (xv_i a850), some (xv_i a848), none] (xk_V (in_63 rfl) (sh_26 n)) (cl_63 rfl) rfl rfl rfl rfl (gm_canStaySafe_ok n d e910) ?_
        by_cases c912 : v908 = 0
        · replace h := (if_pos c912).symm.trans h
          refine xr_iff 50 (in_63 rfl) rfl (fun q => q c912) ?_
          refine xr_aload_n (in_63 rfl) rfl ?_
          refine xq_getr (in_63 rfl) (fo_63 rfl) (sh_26 n) rfl ?_
          refine xr_iload_n (in_63 rfl) rfl ?_
          refine xr_iconst_ _ (in_63 rfl) (show _ = (0 : Int32) by decide) ?_
          obtain ⟨o913, h⟩ := xg_e h
          refine xq_bast (in_63 rfl) (sh_29 n) o913 (by decide) ?_
          obtain ⟨m914, e915, h⟩ := xs_e h
          rw [← e915]
          clear e915
          refine xr_aload_n (in_63 rfl) rfl ?_
          refine xr_dup (in_63 rfl) rfl ?_
          refine xq_geti (in_63 rfl) (fo_63 rfl) (sh_26 n) rfl ?_
          refine xr_iconst_ _ (in_63 rfl) (show _ = (1 : Int32) by decide) ?_
          refine xr_isub (in_63 rfl) ?_
          refine xq_put (in_63 rfl) (fo_63 rfl) (sh_26 n) rfl (Or.inl rfl) ?_
          obtain ⟨m916, e917, h⟩ := xs_e h
          rw [← e917]
          clear e917
          refine xr_iinc (a850 + (1 : Int32)) [some (xv_r 26), some (xv_i a848), some (xv_i a849), some (xv_i (a850 + (1 : Int32)))] (in_63 rfl) rfl (xi_1 _) (nl_63 rfl) rfl ?_
          refine xr_goto 7 (in_63 rfl) rfl ?_
          exact ih (a850 + (1 : Int32)) m916 h
        · replace h := (if_neg c912).symm.trans h
          refine xr_ift 50 (in_63 rfl) rfl c912 ?_
          refine xr_iinc (a850 + (1 : Int32)) [some (xv_r 26), some (xv_i a848), some (xv_i a849), some (xv_i (a850 + (1 : Int32)))] (in_63 rfl) rfl (xi_1 _) (nl_63 rfl) rfl ?_
          refine xr_goto 7 (in_63 rfl) rfl ?_
          exact ih (a850 + (1 : Int32)) m909 h
def gm_dropUnsafe (F : Nat) (a1 : Int32) (m : xm_S) : Option (Int32 × xm_S) := gm_dropUnsafe_l7 F a1 (m.1 26 5) (fun (m918 : xm_S) => if (m918.1 26 5) = (m.1 26 5) then some ((0 : Int32), m918) else some ((1 : Int32), m918)) F (0 : Int32) m
theorem gm_dropUnsafe_ok {xt : Nat → Nat × (Nat → Int32)} (n d : Nat) {F : Nat} {a1 : Int32} {m m' : xm_S} {r : Int32} (h : gm_dropUnsafe F a1 m = some (r, m')) : xm_Run pg xt (d + 4) 63 0 0 (xQ_i (sh n) r m') 0 [some (xv_r 26), some (xv_i a1), none, none] [] (xq_2 (sh n) m) 0 0 := by
  unfold gm_dropUnsafe at h
  refine xr_aload_n (in_63 rfl) rfl ?_
  refine xq_geti (in_63 rfl) (fo_63 rfl) (sh_26 n) rfl ?_
  refine xr_istore_n [some (xv_r 26), some (xv_i a1), some (xv_i (m.1 26 5)), none] (in_63 rfl) (nl_63 rfl) rfl ?_
  refine xr_iconst_ _ (in_63 rfl) (show _ = (0 : Int32) by decide) ?_
  refine xr_istore_n [some (xv_r 26), some (xv_i a1), some (xv_i (m.1 26 5)), some (xv_i (0 : Int32))] (in_63 rfl) (nl_63 rfl) rfl ?_
  refine gm_dropUnsafe_l7_ok n d (fun m918 h => ?_) F (0 : Int32) m h
  refine xr_aload_n (in_63 rfl) rfl ?_
  refine xq_geti (in_63 rfl) (fo_63 rfl) (sh_26 n) rfl ?_
  refine xr_iload_n (in_63 rfl) rfl ?_
  by_cases c919 : (m918.1 26 5) = (m.1 26 5)
  · replace h := (if_pos c919).symm.trans h
    refine xr_ict 68 (in_63 rfl) rfl c919 ?_
    refine xr_iconst_ _ (in_63 rfl) (show _ = (0 : Int32) by decide) ?_
    obtain ⟨rfl, rfl⟩ := Prod.mk.inj (Option.some.inj h)
    exact xr_zret (kd_63) (in_63 rfl) (by decide) (Nat.le_refl _) (Nat.le_refl _) ⟨rfl, rfl⟩
  · replace h := (if_neg c919).symm.trans h
    refine xr_icf 68 (in_63 rfl) rfl c919 ?_
    refine xr_iconst_ _ (in_63 rfl) (show _ = (1 : Int32) by decide) ?_
    refine xr_goto 69 (in_63 rfl) rfl ?_
    obtain ⟨rfl, rfl⟩ := Prod.mk.inj (Option.some.inj h)
    exact xr_zret (kd_63) (in_63 rfl) (by decide) (Nat.le_refl _) (Nat.le_refl _) ⟨rfl, rfl⟩
def gm_isWonBy_l2 (F : Nat) (a832 : Int32) (k : xm_S → Option (Int32 × xm_S)) : Nat → Int32 → xm_S → Option (Int32 × xm_S)
  | 0, _, _ => none
  | fu + 1, a833, m831 => if (m831.1 26 2) ≤ a833 then k m831 else xg_n a833 100 (xs_m (xw_i m831 29 a833.toNatClampNeg (1 : Int32)) fun m836 => gm_isWonBy_l2 F a832 k fu (a833 + (1 : Int32)) m836)
theorem gm_isWonBy_l2_ok {xt : Nat → Nat × (Nat → Int32)} (n d : Nat) {F : Nat} {a832 : Int32} {k : xm_S → Option (Int32 × xm_S)} {r : Int32} {m' : xm_S} 
    (hk : ∀ (m : xm_S), k m = some (r, m') → xm_Run pg xt (d + 5) 62 0 0 (xQ_i (sh n) r m') 23 [some (xv_r 26), some (xv_i a832), none, none] [] (xq_2 (sh n) m) 0 0) :
    ∀ (fu : Nat) (a833 : Int32) (m831 : xm_S), gm_isWonBy_l2 F a832 k fu a833 m831 = some (r, m') → xm_Run pg xt (d + 5) 62 0 0 (xQ_i (sh n) r m') 2 [some (xv_r 26), some (xv_i a832), some (xv_i a833), none] [] (xq_2 (sh n) m831) 0 0 := by
  intro fu
  induction fu with
  | zero => intro a833 m831 h; cases h
  | succ fu ih =>
    intro a833 m831 h
    rw [gm_isWonBy_l2] at h
    refine xr_iload_n (in_62 rfl) rfl ?_
    refine xr_aload_n (in_62 rfl) rfl ?_
    refine xq_geti (in_62 rfl) (fo_62 rfl) (sh_26 n) rfl ?_
    by_cases c834 : (m831.1 26 2) ≤ a833
    · replace h := (if_pos c834).symm.trans h
      refine xr_ict 23 (in_62 rfl) rfl c834 ?_
      refine xr_forget (loc' := [some (xv_r 26), some (xv_i a832), none, none]) (xl_s (xl_s (xl_o (xl_o xl_n)))) ?_
      exact hk m831 h
    · replace h := (if_neg c834).symm.trans h
      refine xr_icf 23 (in_62 rfl) rfl c834 ?_
      refine xr_aload_n (in_62 rfl) rfl ?_
      refine xq_getr (in_62 rfl) (fo_62 rfl) (sh_26 n) rfl ?_
      refine xr_iload_n (in_62 rfl) rfl ?_
      refine xr_iconst_ _ (in_62 rfl) (show _ = (1 : Int32) by decide) ?_
      obtain ⟨o835, h⟩ := xg_e h
      refine xq_bast (in_62 rfl) (sh_29 n) o835 (by decide) ?_
      obtain ⟨m836, e837, h⟩ := xs_e h
      rw [← e837]
      clear e837
      refine xr_iinc (a833 + (1 : Int32)) [some (xv_r 26), some (xv_i a832), some (xv_i (a833 + (1 : Int32))), none] (in_62 rfl) rfl (xi_1 _) (nl_62 rfl) rfl ?_
      refine xr_goto 2 (in_62 rfl) rfl ?_
      exact ih (a833 + (1 : Int32)) m836 h
def gm_isWonBy_l35 (F : Nat) (a842 : Int32) (k : xm_S → Option (Int32 × xm_S)) : Nat → Int32 → Int32 → xm_S → Option (Int32 × xm_S)
  | 0, _, _, _ => none
  | fu + 1, a843, a844, m841 => if (100 : Int32) < a844 then k m841 else if a843 = 0 then k m841 else xc_m (gm_dropUnsafe F a842 m841) fun v920 m921 => gm_isWonBy_l35 F a842 k fu v920 (a844 + (1 : Int32)) m921
theorem gm_isWonBy_l35_ok {xt : Nat → Nat × (Nat → Int32)} (n d : Nat) {F : Nat} {a842 : Int32} {k : xm_S → Option (Int32 × xm_S)} {r : Int32} {m' : xm_S} 
    (hk : ∀ (m : xm_S), k m = some (r, m') → xm_Run pg xt (d + 5) 62 0 0 (xQ_i (sh n) r m') 57 [some (xv_r 26), none, none, none] [] (xq_2 (sh n) m) 0 0) :
    ∀ (fu : Nat) (a843 : Int32) (a844 : Int32) (m841 : xm_S), gm_isWonBy_l35 F a842 k fu a843 a844 m841 = some (r, m') → xm_Run pg xt (d + 5) 62 0 0 (xQ_i (sh n) r m') 35 [some (xv_r 26), some (xv_i a842), some (xv_i a843), some (xv_i a844)] [] (xq_2 (sh n) m841) 0 0 := by
  intro fu
  induction fu with
  | zero => intro a843 a844 m841 h; cases h
  | succ fu ih =>
    intro a843 a844 m841 h
    rw [gm_isWonBy_l35] at h
    refine xr_iload_n (in_62 rfl) rfl ?_
    refine xr_bipush_ _ (in_62 rfl) (show _ = (100 : Int32) by decide) ?_
    by_cases c845 : (100 : Int32) < a844
    · replace h := (if_pos c845).symm.trans h
      refine xr_ict 57 (in_62 rfl) rfl c845 ?_
      refine xr_forget (loc' := [some (xv_r 26), none, none, none]) (xl_s (xl_o (xl_o (xl_o xl_n)))) ?_
      exact hk m841 h
    · replace h := (if_neg c845).symm.trans h
      refine xr_icf 57 (in_62 rfl) rfl c845 ?_
      refine xr_iload_n (in_62 rfl) rfl ?_
      by_cases c846 : a843 = 0
      · replace h := (if_pos c846).symm.trans h
        refine xr_ift 57 (in_62 rfl) rfl c846 ?_
        refine xr_forget (loc' := [some (xv_r 26), none, none, none]) (xl_s (xl_o (xl_o (xl_o xl_n)))) ?_
        exact hk m841 h
      · replace h := (if_neg c846).symm.trans h
        refine xr_iff 57 (in_62 rfl) rfl c846 ?_
        refine xr_aload_n (in_62 rfl) rfl ?_
        refine xr_iload_n (in_62 rfl) rfl ?_
        obtain ⟨v920, m921, e922, h⟩ := xc_m_e h
        refine xq_calla [xv_r 26, xv_i a842] [] [some (xv_r 26), some (xv_i a842), none, none] (xk_V (in_62 rfl) (sh_26 n)) (cl_62 rfl) rfl rfl rfl rfl (gm_dropUnsafe_ok n d e922) ?_
        refine xr_istore_n [some (xv_r 26), some (xv_i a842), some (xv_i v920), some (xv_i a844)] (in_62 rfl) (nl_62 rfl) rfl ?_
        refine xr_iinc (a844 + (1 : Int32)) [some (xv_r 26), some (xv_i a842), some (xv_i v920), some (xv_i (a844 + (1 : Int32)))] (in_62 rfl) rfl (xi_1 _) (nl_62 rfl) rfl ?_
        refine xr_goto 35 (in_62 rfl) rfl ?_
        exact ih v920 (a844 + (1 : Int32)) m921 h
def gm_isWonBy (F : Nat) (a1 : Int32) (m : xm_S) : Option (Int32 × xm_S) := gm_isWonBy_l2 F a1 (fun (m838 : xm_S) => xs_m (xw_i m838 26 5 (m838.1 26 2)) fun m839 => gm_isWonBy_l35 F a1 (fun (m924 : xm_S) => xg_n (0 : Int32) 100 (xg_b (m924.1 29 (0 : Int32).toNatClampNeg) (some (m924.1 29 (0 : Int32).toNatClampNeg, m924)))) F (1 : Int32) (0 : Int32) m839) F (0 : Int32) m
theorem gm_isWonBy_ok {xt : Nat → Nat × (Nat → Int32)} (n d : Nat) {F : Nat} {a1 : Int32} {m m' : xm_S} {r : Int32} (h : gm_isWonBy F a1 m = some (r, m')) : xm_Run pg xt (d + 5) 62 0 0 (xQ_i (sh n) r m') 0 [some (xv_r 26), some (xv_i a1), none, none] [] (xq_2 (sh n) m) 0 0 := by
  unfold gm_isWonBy at h
  refine xr_iconst_ _ (in_62 rfl) (show _ = (0 : Int32) by decide) ?_
  refine xr_istore_n [some (xv_r 26), some (xv_i a1), some (xv_i (0 : Int32)), none] (in_62 rfl) (nl_62 rfl) rfl ?_
  refine gm_isWonBy_l2_ok n d (fun m838 h => ?_) F (0 : Int32) m h
  refine xr_aload_n (in_62 rfl) rfl ?_
  refine xr_aload_n (in_62 rfl) rfl ?_
  refine xq_geti (in_62 rfl) (fo_62 rfl) (sh_26 n) rfl ?_
  refine xq_put (in_62 rfl) (fo_62 rfl) (sh_26 n) rfl (Or.inl rfl) ?_
  obtain ⟨m839, e840, h⟩ := xs_e h
  rw [← e840]
  clear e840
  refine xr_iconst_ _ (in_62 rfl) (show _ = (1 : Int32) by decide) ?_
  refine xr_istore_n [some (xv_r 26), some (xv_i a1), some (xv_i (1 : Int32)), none] (in_62 rfl) (nl_62 rfl) rfl ?_
  refine xr_iconst_ _ (in_62 rfl) (show _ = (0 : Int32) by decide) ?_
  refine xr_istore_n [some (xv_r 26), some (xv_i a1), some (xv_i (1 : Int32)), some (xv_i (0 : Int32))] (in_62 rfl) (nl_62 rfl) rfl ?_
  refine gm_isWonBy_l35_ok n d (fun m924 h => ?_) F (1 : Int32) (0 : Int32) m839 h
  refine xr_aload_n (in_62 rfl) rfl ?_
  refine xq_getr (in_62 rfl) (fo_62 rfl) (sh_26 n) rfl ?_
  refine xr_iconst_ _ (in_62 rfl) (show _ = (0 : Int32) by decide) ?_
  obtain ⟨o925, h⟩ := xg_e h
  refine xq_bald (in_62 rfl) (sh_29 n) o925 ?_
  obtain ⟨o926, h⟩ := xg_b_e h
  obtain ⟨rfl, rfl⟩ := Prod.mk.inj (Option.some.inj h)
  exact xr_zret (kd_62) (in_62 rfl) o926 (Nat.le_refl _) (Nat.le_refl _) ⟨rfl, rfl⟩
def wi_stateOf (F : Nat) (a1 : Int32) (m : xm_S) : Option (Int32 × xm_S) := xg_n a1 100 (xj_j (fun (m971 : xm_S) => xg_n a1 100 (some (m971.1 32 a1.toNatClampNeg, m971))) fun j972 => if (m.1 32 a1.toNatClampNeg) = (-1 : Int32) then xg_n (m.1 30 2) 100 (xs_m (xw_i m 31 (m.1 30 2).toNatClampNeg a1) fun m978 => xg_n a1 100 (xs_m (xw_i m978 32 a1.toNatClampNeg (m978.1 30 2)) fun m981 => xs_m (xw_i m981 30 2 ((m981.1 30 2) + (1 : Int32))) fun m983 => j972 m983)) else j972 m)
theorem wi_stateOf_ok {xt : Nat → Nat × (Nat → Int32)} (n d : Nat) {F : Nat} {a1 : Int32} {m m' : xm_S} {r : Int32} (h : wi_stateOf F a1 m = some (r, m')) : xm_Run pg xt d 71 0 0 (xQ_i (sh n) r m') 0 [some (xv_r 30), some (xv_i a1)] [] (xq_2 (sh n) m) 0 0 := by
  unfold wi_stateOf at h
  refine xr_aload_n (in_71 rfl) rfl ?_
  refine xq_getr (in_71 rfl) (fo_71 rfl) (sh_30 n) rfl ?_
  refine xr_iload_n (in_71 rfl) rfl ?_
  obtain ⟨o960, h⟩ := xg_e h
  refine xq_iald (in_71 rfl) (sh_32 n) o960 ?_
  refine xr_iconst_ _ (in_71 rfl) (show _ = (-1 : Int32) by decide) ?_
  obtain ⟨j972, e973, h⟩ := xj_e h
  have q974 : ∀ (m971 : xm_S), j972 m971 = some (r, m') → xm_Run pg xt d 71 0 0 (xQ_i (sh n) r m') 40 [some (xv_r 30), some (xv_i a1)] [] (xq_2 (sh n) m971) 0 0 := by
    intro m971 h
    rw [e973] at h
    refine xr_aload_n (in_71 rfl) rfl ?_
    refine xq_getr (in_71 rfl) (fo_71 rfl) (sh_30 n) rfl ?_
    refine xr_iload_n (in_71 rfl) rfl ?_
    obtain ⟨o975, h⟩ := xg_e h
    refine xq_iald (in_71 rfl) (sh_32 n) o975 ?_
    obtain ⟨rfl, rfl⟩ := Prod.mk.inj (Option.some.inj h)
    exact xr_iret (kd_71) (in_71 rfl) (Nat.le_refl _) (Nat.le_refl _) ⟨rfl, rfl⟩
  clear e973
  by_cases c976 : (m.1 32 a1.toNatClampNeg) = (-1 : Int32)
  · replace h := (if_pos c976).symm.trans h
    refine xr_icf 40 (in_71 rfl) rfl (fun q => q c976) ?_
    refine xr_aload_n (in_71 rfl) rfl ?_
    refine xq_getr (in_71 rfl) (fo_71 rfl) (sh_30 n) rfl ?_
    refine xr_aload_n (in_71 rfl) rfl ?_
    refine xq_geti (in_71 rfl) (fo_71 rfl) (sh_30 n) rfl ?_
    refine xr_iload_n (in_71 rfl) rfl ?_
    obtain ⟨o977, h⟩ := xg_e h
    refine xq_iast (in_71 rfl) (sh_31 n) o977 ?_
    obtain ⟨m978, e979, h⟩ := xs_e h
    rw [← e979]
    clear e979
    refine xr_aload_n (in_71 rfl) rfl ?_
    refine xq_getr (in_71 rfl) (fo_71 rfl) (sh_30 n) rfl ?_
    refine xr_iload_n (in_71 rfl) rfl ?_
    refine xr_aload_n (in_71 rfl) rfl ?_
    refine xq_geti (in_71 rfl) (fo_71 rfl) (sh_30 n) rfl ?_
    obtain ⟨o980, h⟩ := xg_e h
    refine xq_iast (in_71 rfl) (sh_32 n) o980 ?_
    obtain ⟨m981, e982, h⟩ := xs_e h
    rw [← e982]
    clear e982
    refine xr_aload_n (in_71 rfl) rfl ?_
    refine xr_dup (in_71 rfl) rfl ?_
    refine xq_geti (in_71 rfl) (fo_71 rfl) (sh_30 n) rfl ?_
    refine xr_iconst_ _ (in_71 rfl) (show _ = (1 : Int32) by decide) ?_
    refine xr_iadd (in_71 rfl) ?_
    refine xq_put (in_71 rfl) (fo_71 rfl) (sh_30 n) rfl (Or.inl rfl) ?_
    obtain ⟨m983, e984, h⟩ := xs_e h
    rw [← e984]
    clear e984
    exact q974 m983 h
  · replace h := (if_neg c976).symm.trans h
    refine xr_ict 40 (in_71 rfl) rfl c976 ?_
    exact q974 m h
def wi_begin (F : Nat) (a1 : Int32) (m : xm_S) : Option (xm_S) := xs_m (xw_i m 30 1 a1) fun m948 => xs_m (xw_i m948 30 3 (m948.1 26 2)) fun m950 => xs_m (xw_i m950 30 4 (m950.1 26 5)) fun m952 => xc_v (ja_fill F 32 100 (-1 : Int32) m952) fun m955 => xs_m (xw_i m955 30 2 (0 : Int32)) fun m958 => xc_m (wi_stateOf F (0 : Int32) m958) fun v985 m986 => some m986
theorem wi_begin_ok {xt : Nat → Nat × (Nat → Int32)} (n d : Nat) {F : Nat} {a1 : Int32} {m m' : xm_S} (h : wi_begin F a1 m = some m') : xm_Run pg xt (d + 1) 70 0 0 (xQ_v (sh n) m') 0 [some (xv_r 30), some (xv_i a1)] [] (xq_2 (sh n) m) 0 0 := by
  unfold wi_begin at h
  refine xr_aload_n (in_70 rfl) rfl ?_
  refine xr_iload_n (in_70 rfl) rfl ?_
  refine xq_put (in_70 rfl) (fo_70 rfl) (sh_30 n) rfl (Or.inl rfl) ?_
  obtain ⟨m948, e949, h⟩ := xs_e h
  rw [← e949]
  clear e949
  refine xr_aload_n (in_70 rfl) rfl ?_
  refine xr_aload_n (in_70 rfl) rfl ?_
  refine xq_getr (in_70 rfl) (fo_70 rfl) (sh_30 n) rfl ?_
  refine xq_geti (in_70 rfl) (fo_70 rfl) (sh_26 n) rfl ?_
  refine xq_put (in_70 rfl) (fo_70 rfl) (sh_30 n) rfl (Or.inl rfl) ?_
  obtain ⟨m950, e951, h⟩ := xs_e h
  rw [← e951]
  clear e951
  refine xr_aload_n (in_70 rfl) rfl ?_
  refine xr_aload_n (in_70 rfl) rfl ?_
  refine xq_getr (in_70 rfl) (fo_70 rfl) (sh_30 n) rfl ?_
  refine xq_geti (in_70 rfl) (fo_70 rfl) (sh_26 n) rfl ?_
  refine xq_put (in_70 rfl) (fo_70 rfl) (sh_30 n) rfl (Or.inl rfl) ?_
  obtain ⟨m952, e953, h⟩ := xs_e h
  rw [← e953]
  clear e953
  refine xr_aload_n (in_70 rfl) rfl ?_
  refine xq_getr (in_70 rfl) (fo_70 rfl) (sh_30 n) rfl ?_
  refine xr_iconst_ _ (in_70 rfl) (show _ = (-1 : Int32) by decide) ?_
  obtain ⟨m955, e956, h⟩ := xc_v_e h
  refine xq_callv [xv_r 32, xv_i (-1 : Int32)] [] [some (xv_r 32), some (xv_i (-1 : Int32)), none, none] (xk_S (in_70 rfl)) (cl_70 rfl) rfl rfl rfl rfl (ja_fill_ok n d (sh_32 n) e956) ?_
  refine xr_aload_n (in_70 rfl) rfl ?_
  refine xr_iconst_ _ (in_70 rfl) (show _ = (0 : Int32) by decide) ?_
  refine xq_put (in_70 rfl) (fo_70 rfl) (sh_30 n) rfl (Or.inl rfl) ?_
  obtain ⟨m958, e959, h⟩ := xs_e h
  rw [← e959]
  clear e959
  refine xr_aload_n (in_70 rfl) rfl ?_
  refine xr_iconst_ _ (in_70 rfl) (show _ = (0 : Int32) by decide) ?_
  obtain ⟨v985, m986, e987, h⟩ := xc_m_e h
  refine xq_calla [xv_r 30, xv_i (0 : Int32)] [] [some (xv_r 30), some (xv_i (0 : Int32))] (xk_V (in_70 rfl) (sh_30 n)) (cl_70 rfl) rfl rfl rfl rfl (wi_stateOf_ok n d e987) ?_
  refine xr_pop (in_70 rfl) rfl ?_
  obtain rfl := Option.some.inj h
  exact xr_vret (kd_70) (in_70 rfl) (Nat.le_refl _) (Nat.le_refl _) ⟨rfl, rfl⟩
def wi_addStep (F : Nat) (a1 : Int32) (a2 : Int32) (a3 : Int32) (a4 : Int32) (m : xm_S) : Option (xm_S) := if a3 = (-1 : Int32) then some m else if a4 = (-1 : Int32) then some m else xg_n ((a1 * (4 : Int32)) + a2) 400 (xs_m (xw_i m 33 ((a1 * (4 : Int32)) + a2).toNatClampNeg (if (m.1 30 1) = (1 : Int32) then a4 else a3)) fun m1011 => xg_n a1 100 (xc_m (gm_follower F (m1011.1 31 a1.toNatClampNeg) a3 a4 m1011) fun v1014 m1015 => xc_m (wi_stateOf F v1014 m1015) fun v1018 m1019 => xg_n ((a1 * (4 : Int32)) + a2) 400 (xs_m (xw_i m1019 34 ((a1 * (4 : Int32)) + a2).toNatClampNeg v1018) fun m1023 => some m1023)))
theorem wi_addStep_ok {xt : Nat → Nat × (Nat → Int32)} (n d : Nat) {F : Nat} {a1 : Int32} {a2 : Int32} {a3 : Int32} {a4 : Int32} {m m' : xm_S} (h : wi_addStep F a1 a2 a3 a4 m = some m') : xm_Run pg xt (d + 1) 72 0 0 (xQ_v (sh n) m') 0 [some (xv_r 30), some (xv_i a1), some (xv_i a2), some (xv_i a3), some (xv_i a4), none] [] (xq_2 (sh n) m) 0 0 := by
  unfold wi_addStep at h
  refine xr_iload_n (in_72 rfl) rfl ?_
  refine xr_iconst_ _ (in_72 rfl) (show _ = (-1 : Int32) by decide) ?_
  by_cases c1007 : a3 = (-1 : Int32)
  · replace h := (if_pos c1007).symm.trans h
    refine xr_ict 11 (in_72 rfl) rfl c1007 ?_
    obtain rfl := Option.some.inj h
    exact xr_vret (kd_72) (in_72 rfl) (Nat.le_refl _) (Nat.le_refl _) ⟨rfl, rfl⟩
  · replace h := (if_neg c1007).symm.trans h
    refine xr_icf 11 (in_72 rfl) rfl c1007 ?_
    refine xr_iload (in_72 rfl) rfl ?_
    refine xr_iconst_ _ (in_72 rfl) (show _ = (-1 : Int32) by decide) ?_
    by_cases c1008 : a4 = (-1 : Int32)
    · replace h := (if_pos c1008).symm.trans h
      refine xr_icf 12 (in_72 rfl) rfl (fun q => q c1008) ?_
      obtain rfl := Option.some.inj h
      exact xr_vret (kd_72) (in_72 rfl) (Nat.le_refl _) (Nat.le_refl _) ⟨rfl, rfl⟩
    · replace h := (if_neg c1008).symm.trans h
      refine xr_ict 12 (in_72 rfl) rfl c1008 ?_
      refine xr_iload_n (in_72 rfl) rfl ?_
      refine xr_iconst_ _ (in_72 rfl) (show _ = (4 : Int32) by decide) ?_
      refine xr_imul (in_72 rfl) ?_
      refine xr_iload_n (in_72 rfl) rfl ?_
      refine xr_iadd (in_72 rfl) ?_
      refine xr_istore [some (xv_r 30), some (xv_i a1), some (xv_i a2), some (xv_i a3), some (xv_i a4), some (xv_i ((a1 * (4 : Int32)) + a2))] (in_72 rfl) (nl_72 rfl) rfl ?_
      refine xr_aload_n (in_72 rfl) rfl ?_
      refine xq_getr (in_72 rfl) (fo_72 rfl) (sh_30 n) rfl ?_
      refine xr_iload (in_72 rfl) rfl ?_
      refine xr_aload_n (in_72 rfl) rfl ?_
      refine xq_geti (in_72 rfl) (fo_72 rfl) (sh_30 n) rfl ?_
      refine xr_iconst_ _ (in_72 rfl) (show _ = (1 : Int32) by decide) ?_
      have q1025 : xm_Run pg xt (d + 1) 72 0 0 (xQ_v (sh n) m') 39 [some (xv_r 30), some (xv_i a1), none, some (xv_i a3), some (xv_i a4), some (xv_i ((a1 * (4 : Int32)) + a2))] [xv_i (if (m.1 30 1) = (1 : Int32) then a4 else a3), xv_i ((a1 * (4 : Int32)) + a2), xv_r 33] (xq_2 (sh n) m) 0 0 := by
        obtain ⟨o1010, h⟩ := xg_e h
        refine xq_iast (in_72 rfl) (sh_33 n) o1010 ?_
        obtain ⟨m1011, e1012, h⟩ := xs_e h
        rw [← e1012]
        clear e1012
        refine xr_aload_n (in_72 rfl) rfl ?_
        refine xq_getr (in_72 rfl) (fo_72 rfl) (sh_30 n) rfl ?_
        refine xr_iload (in_72 rfl) rfl ?_
        refine xr_aload_n (in_72 rfl) rfl ?_
        refine xr_aload_n (in_72 rfl) rfl ?_
        refine xq_getr (in_72 rfl) (fo_72 rfl) (sh_30 n) rfl ?_
        refine xr_aload_n (in_72 rfl) rfl ?_
        refine xq_getr (in_72 rfl) (fo_72 rfl) (sh_30 n) rfl ?_
        refine xr_iload_n (in_72 rfl) rfl ?_
        obtain ⟨o1013, h⟩ := xg_e h
        refine xq_iald (in_72 rfl) (sh_31 n) o1013 ?_
        refine xr_iload_n (in_72 rfl) rfl ?_
        refine xr_iload (in_72 rfl) rfl ?_
        obtain ⟨v1014, m1015, e1016, h⟩ := xc_m_e h
        refine xq_calla [xv_r 26, xv_i (m1011.1 31 a1.toNatClampNeg), xv_i a3, xv_i a4] [xv_r 30, xv_i ((a1 * (4 : Int32)) + a2), xv_r 34] [some (xv_r 26), some (xv_i (m1011.1 31 a1.toNatClampNeg)), some (xv_i a3), some (xv_i a4)] (xk_V (in_72 rfl) (sh_26 n)) (cl_72 rfl) rfl rfl rfl rfl (gm_follower_ok n d e1016) ?_
        obtain ⟨v1018, m1019, e1020, h⟩ := xc_m_e h
        refine xq_calla [xv_r 30, xv_i v1014] [xv_i ((a1 * (4 : Int32)) + a2), xv_r 34] [some (xv_r 30), some (xv_i v1014)] (xk_V (in_72 rfl) (sh_30 n)) (cl_72 rfl) rfl rfl rfl rfl (wi_stateOf_ok n d e1020) ?_
        obtain ⟨o1022, h⟩ := xg_e h
        refine xq_iast (in_72 rfl) (sh_34 n) o1022 ?_
        obtain ⟨m1023, e1024, h⟩ := xs_e h
        rw [← e1024]
        clear e1024
        obtain rfl := Option.some.inj h
        exact xr_vret (kd_72) (in_72 rfl) (Nat.le_refl _) (Nat.le_refl _) ⟨rfl, rfl⟩
      by_cases c1009 : (m.1 30 1) = (1 : Int32)
      · refine xr_icf 38 (in_72 rfl) rfl (fun q => q c1009) ?_
        refine xr_iload (in_72 rfl) rfl ?_
        refine xr_goto 39 (in_72 rfl) rfl ?_
        refine xr_forget (loc' := [some (xv_r 30), some (xv_i a1), none, some (xv_i a3), some (xv_i a4), some (xv_i ((a1 * (4 : Int32)) + a2))]) (xl_s (xl_s (xl_o (xl_s (xl_s (xl_s xl_n)))))) ?_
        rw [show (if (m.1 30 1) = (1 : Int32) then a4 else a3) = a4 by rw [if_pos c1009]] at q1025
        exact q1025
      · refine xr_ict 38 (in_72 rfl) rfl c1009 ?_
        refine xr_iload_n (in_72 rfl) rfl ?_
        refine xr_forget (loc' := [some (xv_r 30), some (xv_i a1), none, some (xv_i a3), some (xv_i a4), some (xv_i ((a1 * (4 : Int32)) + a2))]) (xl_s (xl_s (xl_o (xl_s (xl_s (xl_s xl_n)))))) ?_
        rw [show (if (m.1 30 1) = (1 : Int32) then a4 else a3) = a3 by rw [if_neg c1009]] at q1025
        exact q1025
def wi_takeOpponent_l37 (F : Nat) (a1003 : Int32) (a1004 : Int32) (k : xm_S → Option (xm_S)) : Nat → Int32 → xm_S → Option (xm_S)
  | 0, _, _ => none
  | fu + 1, a1005, m1002 => if (4 : Int32) ≤ a1005 then k m1002 else xc_v (wi_addStep F a1003 a1005 a1004 a1005 m1002) fun m1027 => wi_takeOpponent_l37 F a1003 a1004 k fu (a1005 + (1 : Int32)) m1027
theorem wi_takeOpponent_l37_ok {xt : Nat → Nat × (Nat → Int32)} (n d : Nat) {F : Nat} {a1003 : Int32} {a1004 : Int32} {k : xm_S → Option (xm_S)} {m' : xm_S} 
    (hk : ∀ (m : xm_S), k m = some m' → xm_Run pg xt (d + 3) 73 0 0 (xQ_v (sh n) m') 56 [some (xv_r 30), some (xv_i a1003), none, none] [] (xq_2 (sh n) m) 0 0) :
    ∀ (fu : Nat) (a1005 : Int32) (m1002 : xm_S), wi_takeOpponent_l37 F a1003 a1004 k fu a1005 m1002 = some m' → xm_Run pg xt (d + 3) 73 0 0 (xQ_v (sh n) m') 37 [some (xv_r 30), some (xv_i a1003), some (xv_i a1004), some (xv_i a1005)] [] (xq_2 (sh n) m1002) 0 0 := by
  intro fu
  induction fu with
  | zero => intro a1005 m1002 h; cases h
  | succ fu ih =>
    intro a1005 m1002 h
    rw [wi_takeOpponent_l37] at h
    refine xr_iload_n (in_73 rfl) rfl ?_
    refine xr_iconst_ _ (in_73 rfl) (show _ = (4 : Int32) by decide) ?_
    by_cases c1006 : (4 : Int32) ≤ a1005
    · replace h := (if_pos c1006).symm.trans h
      refine xr_ict 56 (in_73 rfl) rfl c1006 ?_
      refine xr_forget (loc' := [some (xv_r 30), some (xv_i a1003), none, none]) (xl_s (xl_s (xl_o (xl_o xl_n)))) ?_
      exact hk m1002 h
    · replace h := (if_neg c1006).symm.trans h
      refine xr_icf 56 (in_73 rfl) rfl c1006 ?_
      refine xr_aload_n (in_73 rfl) rfl ?_
      refine xr_iload_n (in_73 rfl) rfl ?_
      refine xr_iload_n (in_73 rfl) rfl ?_
      refine xr_iload_n (in_73 rfl) rfl ?_
      refine xr_iload_n (in_73 rfl) rfl ?_
      obtain ⟨m1027, e1028, h⟩ := xc_v_e h
      refine xq_callv [xv_r 30, xv_i a1003, xv_i a1005, xv_i a1004, xv_i a1005] [] [some (xv_r 30), some (xv_i a1003), some (xv_i a1005), some (xv_i a1004), some (xv_i a1005), none] (xk_V (in_73 rfl) (sh_30 n)) (cl_73 rfl) rfl rfl rfl rfl (wi_addStep_ok n (d + 1) e1028) ?_
      refine xr_iinc (a1005 + (1 : Int32)) [some (xv_r 30), some (xv_i a1003), some (xv_i a1004), some (xv_i (a1005 + (1 : Int32)))] (in_73 rfl) rfl (xi_1 _) (nl_73 rfl) rfl ?_
      refine xr_goto 37 (in_73 rfl) rfl ?_
      exact ih (a1005 + (1 : Int32)) m1027 h
def wi_takeOpponent_l7 (F : Nat) (k : xm_S → Option (xm_S)) : Nat → Int32 → xm_S → Option (xm_S)
  | 0, _, _ => none
  | fu + 1, a994, m993 => if (m993.1 30 2) ≤ a994 then k m993 else if (100 : Int32) ≤ a994 then k m993 else xg_n a994 100 (xc_m (gm_safeInput F (m993.1 31 a994.toNatClampNeg) m993) fun v998 m999 => wi_takeOpponent_l37 F a994 v998 (fun (m1030 : xm_S) => wi_takeOpponent_l7 F k fu (a994 + (1 : Int32)) m1030) F (0 : Int32) m999)
theorem wi_takeOpponent_l7_ok {xt : Nat → Nat × (Nat → Int32)} (n d : Nat) {F : Nat} {k : xm_S → Option (xm_S)} {m' : xm_S} 
    (hk : ∀ (m : xm_S), k m = some m' → xm_Run pg xt (d + 3) 73 0 0 (xQ_v (sh n) m') 62 [none, none, none, none] [] (xq_2 (sh n) m) 0 0) :
    ∀ (fu : Nat) (a994 : Int32) (m993 : xm_S), wi_takeOpponent_l7 F k fu a994 m993 = some m' → xm_Run pg xt (d + 3) 73 0 0 (xQ_v (sh n) m') 7 [some (xv_r 30), some (xv_i a994), none, none] [] (xq_2 (sh n) m993) 0 0 := by
  intro fu
  induction fu with
  | zero => intro a994 m993 h; cases h
  | succ fu ih =>
    intro a994 m993 h
    rw [wi_takeOpponent_l7] at h
    refine xr_iload_n (in_73 rfl) rfl ?_
    refine xr_aload_n (in_73 rfl) rfl ?_
    refine xq_geti (in_73 rfl) (fo_73 rfl) (sh_30 n) rfl ?_
    by_cases c995 : (m993.1 30 2) ≤ a994
    · replace h := (if_pos c995).symm.trans h
      refine xr_ict 62 (in_73 rfl) rfl c995 ?_
      refine xr_forget (loc' := [none, none, none, none]) (xl_o (xl_o (xl_o (xl_o xl_n)))) ?_
      exact hk m993 h
    · replace h := (if_neg c995).symm.trans h
      refine xr_icf 62 (in_73 rfl) rfl c995 ?_
      refine xr_iload_n (in_73 rfl) rfl ?_
      refine xr_bipush_ _ (in_73 rfl) (show _ = (100 : Int32) by decide) ?_
      by_cases c996 : (100 : Int32) ≤ a994
      · replace h := (if_pos c996).symm.trans h
        refine xr_ict 62 (in_73 rfl) rfl c996 ?_
        refine xr_forget (loc' := [none, none, none, none]) (xl_o (xl_o (xl_o (xl_o xl_n)))) ?_
        exact hk m993 h
      · replace h := (if_neg c996).symm.trans h
        refine xr_icf 62 (in_73 rfl) rfl c996 ?_
        refine xr_aload_n (in_73 rfl) rfl ?_
        refine xq_getr (in_73 rfl) (fo_73 rfl) (sh_30 n) rfl ?_
        refine xr_aload_n (in_73 rfl) rfl ?_
        refine xq_getr (in_73 rfl) (fo_73 rfl) (sh_30 n) rfl ?_
        refine xr_iload_n (in_73 rfl) rfl ?_
        obtain ⟨o997, h⟩ := xg_e h
        refine xq_iald (in_73 rfl) (sh_31 n) o997 ?_
        obtain ⟨v998, m999, e1000, h⟩ := xc_m_e h
        refine xq_calla [xv_r 26, xv_i (m993.1 31 a994.toNatClampNeg)] [] [some (xv_r 26), some (xv_i (m993.1 31 a994.toNatClampNeg)), none, none, none] (xk_V (in_73 rfl) (sh_26 n)) (cl_73 rfl) rfl rfl rfl rfl (gm_safeInput_ok n d e1000) ?_
        refine xr_istore_n [some (xv_r 30), some (xv_i a994), some (xv_i v998), none] (in_73 rfl) (nl_73 rfl) rfl ?_
        refine xr_iconst_ _ (in_73 rfl) (show _ = (0 : Int32) by decide) ?_
        refine xr_istore_n [some (xv_r 30), some (xv_i a994), some (xv_i v998), some (xv_i (0 : Int32))] (in_73 rfl) (nl_73 rfl) rfl ?_
        refine wi_takeOpponent_l37_ok n d (fun m1030 h => ?_) F (0 : Int32) m999 h
        refine xr_iinc (a994 + (1 : Int32)) [some (xv_r 30), some (xv_i (a994 + (1 : Int32))), none, none] (in_73 rfl) rfl (xi_1 _) (nl_73 rfl) rfl ?_
        refine xr_goto 7 (in_73 rfl) rfl ?_
        exact ih (a994 + (1 : Int32)) m1030 h
def wi_takeOpponent (F : Nat) (m : xm_S) : Option (xm_S) := xc_v (wi_begin F (2 : Int32) m) fun m990 => wi_takeOpponent_l7 F (fun (m1031 : xm_S) => some m1031) F (0 : Int32) m990
theorem wi_takeOpponent_ok {xt : Nat → Nat × (Nat → Int32)} (n d : Nat) {F : Nat} {m m' : xm_S} (h : wi_takeOpponent F m = some m') : xm_Run pg xt (d + 3) 73 0 0 (xQ_v (sh n) m') 0 [some (xv_r 30), none, none, none] [] (xq_2 (sh n) m) 0 0 := by
  unfold wi_takeOpponent at h
  refine xr_aload_n (in_73 rfl) rfl ?_
  refine xr_iconst_ _ (in_73 rfl) (show _ = (2 : Int32) by decide) ?_
  obtain ⟨m990, e991, h⟩ := xc_v_e h
  refine xq_callv [xv_r 30, xv_i (2 : Int32)] [] [some (xv_r 30), some (xv_i (2 : Int32))] (xk_V (in_73 rfl) (sh_30 n)) (cl_73 rfl) rfl rfl rfl rfl (wi_begin_ok n (d + 1) e991) ?_
  refine xr_iconst_ _ (in_73 rfl) (show _ = (0 : Int32) by decide) ?_
  refine xr_istore_n [some (xv_r 30), some (xv_i (0 : Int32)), none, none] (in_73 rfl) (nl_73 rfl) rfl ?_
  refine wi_takeOpponent_l7_ok n d (fun m1031 h => ?_) F (0 : Int32) m990 h
  obtain rfl := Option.some.inj h
  exact xr_vret (kd_73) (in_73 rfl) (Nat.le_refl _) (Nat.le_refl _) ⟨rfl, rfl⟩
