/-! Methods as functions, and that they run so (written by program). -/
def au_stateOf_l2 (F : Nat) (a654 : Int32) (a655 : Int32) (k : xm_S → Option (Int32 × xm_S)) : Nat → Int32 → xm_S → Option (Int32 × xm_S)
  | 0, _, _ => none
  | fu + 1, a656, m653 => if (m653.1 20 6) ≤ a656 then k m653 else xg_n a656 16 (if (m653.1 22 a656.toNatClampNeg) = a654 then xg_n a656 16 (if (m653.1 23 a656.toNatClampNeg) = a655 then some (a656, m653) else au_stateOf_l2 F a654 a655 k fu (a656 + (1 : Int32)) m653) else au_stateOf_l2 F a654 a655 k fu (a656 + (1 : Int32)) m653)
theorem au_stateOf_l2_ok {xt : Nat → Nat × (Nat → Int32)} (n d : Nat) {F : Nat} {a654 : Int32} {a655 : Int32} {k : xm_S → Option (Int32 × xm_S)} {r : Int32} {m' : xm_S} 
    (hk : ∀ (m : xm_S), k m = some (r, m') → xm_Run pg xt d 53 0 0 (xQ_i (sh n) r m') 38 [some (xv_r 20), some (xv_i a654), some (xv_i a655), none] [] (xq_2 (sh n) m) 0 0) :
    ∀ (fu : Nat) (a656 : Int32) (m653 : xm_S), au_stateOf_l2 F a654 a655 k fu a656 m653 = some (r, m') → xm_Run pg xt d 53 0 0 (xQ_i (sh n) r m') 2 [some (xv_r 20), some (xv_i a654), some (xv_i a655), some (xv_i a656)] [] (xq_2 (sh n) m653) 0 0 := by
  intro fu
  induction fu with
  | zero => intro a656 m653 h; cases h
  | succ fu ih =>
    intro a656 m653 h
    rw [au_stateOf_l2] at h
    refine xr_iload_n (in_53 rfl) rfl ?_
    refine xr_aload_n (in_53 rfl) rfl ?_
    refine xq_geti (in_53 rfl) (fo_53 rfl) (sh_20 n) rfl ?_
    by_cases c657 : (m653.1 20 6) ≤ a656
    · replace h := (if_pos c657).symm.trans h
      refine xr_ict 38 (in_53 rfl) rfl c657 ?_
      refine xr_forget (loc' := [some (xv_r 20), some (xv_i a654), some (xv_i a655), none]) (xl_s (xl_s (xl_s (xl_o xl_n)))) ?_
      exact hk m653 h
    · replace h := (if_neg c657).symm.trans h
      refine xr_icf 38 (in_53 rfl) rfl c657 ?_
      refine xr_aload_n (in_53 rfl) rfl ?_
      refine xq_getr (in_53 rfl) (fo_53 rfl) (sh_20 n) rfl ?_
      refine xr_iload_n (in_53 rfl) rfl ?_
      obtain ⟨o658, h⟩ := xg_e h
      refine xq_iald (in_53 rfl) (sh_22 n) o658 ?_
      refine xr_iload_n (in_53 rfl) rfl ?_
      by_cases c659 : (m653.1 22 a656.toNatClampNeg) = a654
      · replace h := (if_pos c659).symm.trans h
        refine xr_icf 32 (in_53 rfl) rfl (fun q => q c659) ?_
        refine xr_aload_n (in_53 rfl) rfl ?_
        refine xq_getr (in_53 rfl) (fo_53 rfl) (sh_20 n) rfl ?_
        refine xr_iload_n (in_53 rfl) rfl ?_
        obtain ⟨o660, h⟩ := xg_e h
        refine xq_iald (in_53 rfl) (sh_23 n) o660 ?_
        refine xr_iload_n (in_53 rfl) rfl ?_
        by_cases c661 : (m653.1 23 a656.toNatClampNeg) = a655
        · replace h := (if_pos c661).symm.trans h
          refine xr_icf 32 (in_53 rfl) rfl (fun q => q c661) ?_
          refine xr_iload_n (in_53 rfl) rfl ?_
          obtain ⟨rfl, rfl⟩ := Prod.mk.inj (Option.some.inj h)
          exact xr_iret (kd_53) (in_53 rfl) (Nat.le_refl _) (Nat.le_refl _) ⟨rfl, rfl⟩
        · replace h := (if_neg c661).symm.trans h
          refine xr_ict 32 (in_53 rfl) rfl c661 ?_
          refine xr_iinc (a656 + (1 : Int32)) [some (xv_r 20), some (xv_i a654), some (xv_i a655), some (xv_i (a656 + (1 : Int32)))] (in_53 rfl) rfl (xi_1 _) (nl_53 rfl) rfl ?_
          refine xr_goto 2 (in_53 rfl) rfl ?_
          exact ih (a656 + (1 : Int32)) m653 h
      · replace h := (if_neg c659).symm.trans h
        refine xr_ict 32 (in_53 rfl) rfl c659 ?_
        refine xr_iinc (a656 + (1 : Int32)) [some (xv_r 20), some (xv_i a654), some (xv_i a655), some (xv_i (a656 + (1 : Int32)))] (in_53 rfl) rfl (xi_1 _) (nl_53 rfl) rfl ?_
        refine xr_goto 2 (in_53 rfl) rfl ?_
        exact ih (a656 + (1 : Int32)) m653 h
def au_stateOf (F : Nat) (a1 : Int32) (a2 : Int32) (m : xm_S) : Option (Int32 × xm_S) := au_stateOf_l2 F a1 a2 (fun (m662 : xm_S) => if (m662.1 20 6) < (16 : Int32) then xg_n (m662.1 20 6) 16 (xs_m (xw_i m662 22 (m662.1 20 6).toNatClampNeg a1) fun m665 => xg_n (m665.1 20 6) 16 (xs_m (xw_i m665 23 (m665.1 20 6).toNatClampNeg a2) fun m668 => xs_m (xw_i m668 20 6 ((m668.1 20 6) + (1 : Int32))) fun m670 => some ((m670.1 20 6) - (1 : Int32), m670))) else some ((-1 : Int32), m662)) F (0 : Int32) m
theorem au_stateOf_ok {xt : Nat → Nat × (Nat → Int32)} (n d : Nat) {F : Nat} {a1 : Int32} {a2 : Int32} {m m' : xm_S} {r : Int32} (h : au_stateOf F a1 a2 m = some (r, m')) : xm_Run pg xt d 53 0 0 (xQ_i (sh n) r m') 0 [some (xv_r 20), some (xv_i a1), some (xv_i a2), none] [] (xq_2 (sh n) m) 0 0 := by
  unfold au_stateOf at h
  refine xr_iconst_ _ (in_53 rfl) (show _ = (0 : Int32) by decide) ?_
  refine xr_istore_n [some (xv_r 20), some (xv_i a1), some (xv_i a2), some (xv_i (0 : Int32))] (in_53 rfl) (nl_53 rfl) rfl ?_
  refine au_stateOf_l2_ok n d (fun m662 h => ?_) F (0 : Int32) m h
  refine xr_aload_n (in_53 rfl) rfl ?_
  refine xq_geti (in_53 rfl) (fo_53 rfl) (sh_20 n) rfl ?_
  refine xr_bipush_ _ (in_53 rfl) (show _ = (16 : Int32) by decide) ?_
  by_cases c663 : (m662.1 20 6) < (16 : Int32)
  · replace h := (if_pos c663).symm.trans h
    refine xr_ict 49 (in_53 rfl) rfl c663 ?_
    refine xr_aload_n (in_53 rfl) rfl ?_
    refine xq_getr (in_53 rfl) (fo_53 rfl) (sh_20 n) rfl ?_
    refine xr_aload_n (in_53 rfl) rfl ?_
    refine xq_geti (in_53 rfl) (fo_53 rfl) (sh_20 n) rfl ?_
    refine xr_iload_n (in_53 rfl) rfl ?_
    obtain ⟨o664, h⟩ := xg_e h
    refine xq_iast (in_53 rfl) (sh_22 n) o664 ?_
    obtain ⟨m665, e666, h⟩ := xs_e h
    rw [← e666]
    clear e666
    refine xr_aload_n (in_53 rfl) rfl ?_
    refine xq_getr (in_53 rfl) (fo_53 rfl) (sh_20 n) rfl ?_
    refine xr_aload_n (in_53 rfl) rfl ?_
    refine xq_geti (in_53 rfl) (fo_53 rfl) (sh_20 n) rfl ?_
    refine xr_iload_n (in_53 rfl) rfl ?_
    obtain ⟨o667, h⟩ := xg_e h
    refine xq_iast (in_53 rfl) (sh_23 n) o667 ?_
    obtain ⟨m668, e669, h⟩ := xs_e h
    rw [← e669]
    clear e669
    refine xr_aload_n (in_53 rfl) rfl ?_
    refine xr_dup (in_53 rfl) rfl ?_
    refine xq_geti (in_53 rfl) (fo_53 rfl) (sh_20 n) rfl ?_
    refine xr_iconst_ _ (in_53 rfl) (show _ = (1 : Int32) by decide) ?_
    refine xr_iadd (in_53 rfl) ?_
    refine xq_put (in_53 rfl) (fo_53 rfl) (sh_20 n) rfl (Or.inl rfl) ?_
    obtain ⟨m670, e671, h⟩ := xs_e h
    rw [← e671]
    clear e671
    refine xr_aload_n (in_53 rfl) rfl ?_
    refine xq_geti (in_53 rfl) (fo_53 rfl) (sh_20 n) rfl ?_
    refine xr_iconst_ _ (in_53 rfl) (show _ = (1 : Int32) by decide) ?_
    refine xr_isub (in_53 rfl) ?_
    obtain ⟨rfl, rfl⟩ := Prod.mk.inj (Option.some.inj h)
    exact xr_iret (kd_53) (in_53 rfl) (Nat.le_refl _) (Nat.le_refl _) ⟨rfl, rfl⟩
  · replace h := (if_neg c663).symm.trans h
    refine xr_icf 49 (in_53 rfl) rfl c663 ?_
    refine xr_iconst_ _ (in_53 rfl) (show _ = (-1 : Int32) by decide) ?_
    obtain ⟨rfl, rfl⟩ := Prod.mk.inj (Option.some.inj h)
    exact xr_iret (kd_53) (in_53 rfl) (Nat.le_refl _) (Nat.le_refl _) ⟨rfl, rfl⟩
def au_addSteps_l51 (F : Nat) (n : Nat) (a633 : Int32) (a634 : Nat) (a636 : Int32) (k : xm_S → Option (Int32 × xm_S)) : Nat → Int32 → xm_S → Option (Int32 × xm_S)
  | 0, _, _ => none
  | fu + 1, a637, m632 => if (m632.1 a634 1) ≤ a637 then k m632 else xg_n a637 60 (xg_n a633 16 (xc_m (au_firstPutOff F (m632.1 23 a633.toNatClampNeg) (wy_putOffSet (m632.2 (a634 + 1) a637.toNatClampNeg)) m632) fun v648 m649 => xc_m (au_stateOf F (wy_nextSet (m632.2 (a634 + 1) a637.toNatClampNeg)) (if v648 = (-1 : Int32) then (0 : Int32) else v648) m649) fun v672 m673 => if v672 = (-1 : Int32) then some ((0 : Int32), m673) else xg_n a636 256 (xg_n a636 256 (xs_m (xw_i m673 24 a636.toNatClampNeg ((m673.1 24 a636.toNatClampNeg) ||| ((1 : Int32) <<< (v672 &&& 31)))) fun m679 => if v648 = (-1 : Int32) then xg_n a636 256 (xg_n a636 256 (xs_m (xw_i m679 25 a636.toNatClampNeg ((m679.1 25 a636.toNatClampNeg) ||| ((1 : Int32) <<< (v672 &&& 31)))) fun m684 => au_addSteps_l51 F n a633 a634 a636 k fu (a637 + (1 : Int32)) m684)) else au_addSteps_l51 F n a633 a634 a636 k fu (a637 + (1 : Int32)) m679))))
theorem au_addSteps_l51_ok {xt : Nat → Nat × (Nat → Int32)} (n d : Nat) {F : Nat} {a633 : Int32} {a634 : Nat} {a636 : Int32} {k : xm_S → Option (Int32 × xm_S)} {r : Int32} {m' : xm_S} (w635 : xw_ok a634) 
    (hk : ∀ (m : xm_S), k m = some (r, m') → xm_Run pg xt (d + 3) 48 0 0 (xQ_i (sh n) r m') 157 [none, none, none, none, none, none, none, none, none, none] [] (xq_2 (sh n) m) 0 0) :
    ∀ (fu : Nat) (a637 : Int32) (m632 : xm_S), au_addSteps_l51 F n a633 a634 a636 k fu a637 m632 = some (r, m') → xm_Run pg xt (d + 3) 48 0 0 (xQ_i (sh n) r m') 51 [some (xv_r 20), some (xv_i a633), none, some (xv_r a634), some (xv_i a636), some (xv_i a637), none, none, none, none] [] (xq_2 (sh n) m632) 0 0 := by
  intro fu
  induction fu with
  | zero => intro a637 m632 h; cases h
  | succ fu ih =>
    intro a637 m632 h
    rw [au_addSteps_l51] at h
    refine xr_iload (in_48 rfl) rfl ?_
    refine xr_aload_n (in_48 rfl) rfl ?_
    refine xq_geti (in_48 rfl) (fo_48 rfl) (sh_w n w635) rfl ?_
    by_cases c638 : (m632.1 a634 1) ≤ a637
    · replace h := (if_pos c638).symm.trans h
      refine xr_ict 157 (in_48 rfl) rfl c638 ?_
      refine xr_forget (loc' := [none, none, none, none, none, none, none, none, none, none]) (xl_o (xl_o (xl_o (xl_o (xl_o (xl_o (xl_o (xl_o (xl_o (xl_o xl_n)))))))))) ?_
      exact hk m632 h
    · replace h := (if_neg c638).symm.trans h
      refine xr_icf 157 (in_48 rfl) rfl c638 ?_
      refine xr_aload_n (in_48 rfl) rfl ?_
      refine xq_getr (in_48 rfl) (fo_48 rfl) (sh_w n w635) rfl ?_
      refine xr_iload (in_48 rfl) rfl ?_
      obtain ⟨o639, h⟩ := xg_e h
      refine xq_lald (in_48 rfl) (sh_wr n w635) o639 ?_
      refine xr_lstore [some (xv_r 20), some (xv_i a633), none, some (xv_r a634), some (xv_i a636), some (xv_i a637), some (xv_l (m632.2 (a634 + 1) a637.toNatClampNeg)), none, none, none] (in_48 rfl) (nl_48 rfl) rfl ?_
      refine xr_aload_n (in_48 rfl) rfl ?_
      refine xr_aload_n (in_48 rfl) rfl ?_
      refine xq_getr (in_48 rfl) (fo_48 rfl) (sh_20 n) rfl ?_
      refine xr_iload_n (in_48 rfl) rfl ?_
      obtain ⟨o640, h⟩ := xg_e h
      refine xq_iald (in_48 rfl) (sh_23 n) o640 ?_
      refine xr_lload (in_48 rfl) rfl ?_
      refine xq_calla [xv_l (m632.2 (a634 + 1) a637.toNatClampNeg)] [xv_i (m632.1 23 a633.toNatClampNeg), xv_r 20] [some (xv_l (m632.2 (a634 + 1) a637.toNatClampNeg)), none] (xk_S (in_48 rfl)) (cl_48 rfl) rfl rfl rfl rfl (wy_putOffSet_ok n (d + 2) rfl) ?_
      obtain ⟨v648, m649, e650, h⟩ := xc_m_e h
      refine xq_calla [xv_r 20, xv_i (m632.1 23 a633.toNatClampNeg), xv_i (wy_putOffSet (m632.2 (a634 + 1) a637.toNatClampNeg))] [] [some (xv_r 20), some (xv_i (m632.1 23 a633.toNatClampNeg)), some (xv_i (wy_putOffSet (m632.2 (a634 + 1) a637.toNatClampNeg))), none] (xk_V (in_48 rfl) (sh_20 n)) (cl_48 rfl) rfl rfl rfl rfl (au_firstPutOff_ok n (d + 2) e650) ?_
      refine xr_istore [some (xv_r 20), some (xv_i a633), none, some (xv_r a634), some (xv_i a636), some (xv_i a637), some (xv_l (m632.2 (a634 + 1) a637.toNatClampNeg)), none, some (xv_i v648), none] (in_48 rfl) (nl_48 rfl) rfl ?_
      refine xr_aload_n (in_48 rfl) rfl ?_
      refine xr_lload (in_48 rfl) rfl ?_
      refine xq_calla [xv_l (m632.2 (a634 + 1) a637.toNatClampNeg)] [xv_r 20] [some (xv_l (m632.2 (a634 + 1) a637.toNatClampNeg)), none] (xk_S (in_48 rfl)) (cl_48 rfl) rfl rfl rfl rfl (wy_nextSet_ok n (d + 2) rfl) ?_
      refine xr_iload (in_48 rfl) rfl ?_
      refine xr_iconst_ _ (in_48 rfl) (show _ = (-1 : Int32) by decide) ?_
      have q686 : xm_Run pg xt (d + 3) 48 0 0 (xQ_i (sh n) r m') 104 [some (xv_r 20), some (xv_i a633), none, some (xv_r a634), some (xv_i a636), some (xv_i a637), none, none, some (xv_i v648), none] [xv_i (if v648 = (-1 : Int32) then (0 : Int32) else v648), xv_i (wy_nextSet (m632.2 (a634 + 1) a637.toNatClampNeg)), xv_r 20] (xq_2 (sh n) m649) 0 0 := by
        obtain ⟨v672, m673, e674, h⟩ := xc_m_e h
        refine xq_calla [xv_r 20, xv_i (wy_nextSet (m632.2 (a634 + 1) a637.toNatClampNeg)), xv_i (if v648 = (-1 : Int32) then (0 : Int32) else v648)] [] [some (xv_r 20), some (xv_i (wy_nextSet (m632.2 (a634 + 1) a637.toNatClampNeg))), some (xv_i (if v648 = (-1 : Int32) then (0 : Int32) else v648)), none] (xk_V (in_48 rfl) (sh_20 n)) (cl_48 rfl) rfl rfl rfl rfl (au_stateOf_ok n (d + 2) e674) ?_
        refine xr_istore [some (xv_r 20), some (xv_i a633), none, some (xv_r a634), some (xv_i a636), some (xv_i a637), none, none, some (xv_i v648), some (xv_i v672)] (in_48 rfl) (nl_48 rfl) rfl ?_
        refine xr_iload (in_48 rfl) rfl ?_
        refine xr_iconst_ _ (in_48 rfl) (show _ = (-1 : Int32) by decide) ?_
        by_cases c676 : v672 = (-1 : Int32)
        · replace h := (if_pos c676).symm.trans h
          refine xr_icf 117 (in_48 rfl) rfl (fun q => q c676) ?_
          refine xr_iconst_ _ (in_48 rfl) (show _ = (0 : Int32) by decide) ?_
          obtain ⟨rfl, rfl⟩ := Prod.mk.inj (Option.some.inj h)
          exact xr_zret (kd_48) (in_48 rfl) (by decide) (Nat.le_refl _) (Nat.le_refl _) ⟨rfl, rfl⟩
        · replace h := (if_neg c676).symm.trans h
          refine xr_ict 117 (in_48 rfl) rfl c676 ?_
          refine xr_aload_n (in_48 rfl) rfl ?_
          refine xq_getr (in_48 rfl) (fo_48 rfl) (sh_20 n) rfl ?_
          refine xr_iload (in_48 rfl) rfl ?_
          refine xr_dup2 (in_48 rfl) rfl rfl ?_
          obtain ⟨o677, h⟩ := xg_e h
          refine xq_iald (in_48 rfl) (sh_24 n) o677 ?_
          refine xr_iconst_ _ (in_48 rfl) (show _ = (1 : Int32) by decide) ?_
          refine xr_iload (in_48 rfl) rfl ?_
          refine xr_ishl (in_48 rfl) ?_
          refine xr_ior (in_48 rfl) ?_
          obtain ⟨o678, h⟩ := xg_e h
          refine xq_iast (in_48 rfl) (sh_24 n) o678 ?_
          obtain ⟨m679, e680, h⟩ := xs_e h
          rw [← e680]
          clear e680
          refine xr_iload (in_48 rfl) rfl ?_
          refine xr_iconst_ _ (in_48 rfl) (show _ = (-1 : Int32) by decide) ?_
          by_cases c681 : v648 = (-1 : Int32)
          · replace h := (if_pos c681).symm.trans h
            refine xr_icf 151 (in_48 rfl) rfl (fun q => q c681) ?_
            refine xr_aload_n (in_48 rfl) rfl ?_
            refine xq_getr (in_48 rfl) (fo_48 rfl) (sh_20 n) rfl ?_
            refine xr_iload (in_48 rfl) rfl ?_
            refine xr_dup2 (in_48 rfl) rfl rfl ?_
            obtain ⟨o682, h⟩ := xg_e h
            refine xq_iald (in_48 rfl) (sh_25 n) o682 ?_
            refine xr_iconst_ _ (in_48 rfl) (show _ = (1 : Int32) by decide) ?_
            refine xr_iload (in_48 rfl) rfl ?_
            refine xr_ishl (in_48 rfl) ?_
            refine xr_ior (in_48 rfl) ?_
            obtain ⟨o683, h⟩ := xg_e h
            refine xq_iast (in_48 rfl) (sh_25 n) o683 ?_
            obtain ⟨m684, e685, h⟩ := xs_e h
            rw [← e685]
            clear e685
            refine xr_iinc (a637 + (1 : Int32)) [some (xv_r 20), some (xv_i a633), none, some (xv_r a634), some (xv_i a636), some (xv_i (a637 + (1 : Int32))), none, none, some (xv_i v648), some (xv_i v672)] (in_48 rfl) rfl (xi_1 _) (nl_48 rfl) rfl ?_
            refine xr_goto 51 (in_48 rfl) rfl ?_
            refine xr_forget (loc' := [some (xv_r 20), some (xv_i a633), none, some (xv_r a634), some (xv_i a636), some (xv_i (a637 + (1 : Int32))), none, none, none, none]) (xl_s (xl_s (xl_o (xl_s (xl_s (xl_s (xl_o (xl_o (xl_o (xl_o xl_n)))))))))) ?_
            exact ih (a637 + (1 : Int32)) m684 h
          · replace h := (if_neg c681).symm.trans h
            refine xr_ict 151 (in_48 rfl) rfl c681 ?_
            refine xr_iinc (a637 + (1 : Int32)) [some (xv_r 20), some (xv_i a633), none, some (xv_r a634), some (xv_i a636), some (xv_i (a637 + (1 : Int32))), none, none, some (xv_i v648), some (xv_i v672)] (in_48 rfl) rfl (xi_1 _) (nl_48 rfl) rfl ?_
            refine xr_goto 51 (in_48 rfl) rfl ?_
            refine xr_forget (loc' := [some (xv_r 20), some (xv_i a633), none, some (xv_r a634), some (xv_i a636), some (xv_i (a637 + (1 : Int32))), none, none, none, none]) (xl_s (xl_s (xl_o (xl_s (xl_s (xl_s (xl_o (xl_o (xl_o (xl_o xl_n)))))))))) ?_
            exact ih (a637 + (1 : Int32)) m679 h
      by_cases c652 : v648 = (-1 : Int32)
      · refine xr_icf 102 (in_48 rfl) rfl (fun q => q c652) ?_
        refine xr_iconst_ _ (in_48 rfl) (show _ = (0 : Int32) by decide) ?_
        refine xr_goto 104 (in_48 rfl) rfl ?_
        refine xr_forget (loc' := [some (xv_r 20), some (xv_i a633), none, some (xv_r a634), some (xv_i a636), some (xv_i a637), none, none, some (xv_i v648), none]) (xl_s (xl_s (xl_o (xl_s (xl_s (xl_s (xl_o (xl_o (xl_s (xl_o xl_n)))))))))) ?_
        rw [show (if v648 = (-1 : Int32) then (0 : Int32) else v648) = (0 : Int32) by rw [if_pos c652]] at q686
        exact q686
      · refine xr_ict 102 (in_48 rfl) rfl c652 ?_
        refine xr_iload (in_48 rfl) rfl ?_
        refine xr_forget (loc' := [some (xv_r 20), some (xv_i a633), none, some (xv_r a634), some (xv_i a636), some (xv_i a637), none, none, some (xv_i v648), none]) (xl_s (xl_s (xl_o (xl_s (xl_s (xl_s (xl_o (xl_o (xl_s (xl_o xl_n)))))))))) ?_
        rw [show (if v648 = (-1 : Int32) then (0 : Int32) else v648) = v648 by rw [if_neg c652]] at q686
        exact q686
def au_addSteps (F : Nat) (n : Nat) (a1 : Int32) (a2 : Int32) (m : xm_S) : Option (Int32 × xm_S) := xg_n a1 16 (xc_m (wt_waysOfSet F n (m.1 22 a1.toNatClampNeg) a2 m) fun v620 m621 => xw_k v620 (if (m621.1 v620 2) = 0 then xg_n ((a1 * (16 : Int32)) + a2) 256 (xs_m (xw_i m621 24 ((a1 * (16 : Int32)) + a2).toNatClampNeg (0 : Int32)) fun m627 => xg_n ((a1 * (16 : Int32)) + a2) 256 (xs_m (xw_i m627 25 ((a1 * (16 : Int32)) + a2).toNatClampNeg (0 : Int32)) fun m630 => au_addSteps_l51 F n a1 v620 ((a1 * (16 : Int32)) + a2) (fun (m687 : xm_S) => some ((1 : Int32), m687)) F (0 : Int32) m630)) else some ((0 : Int32), m621)))
theorem au_addSteps_ok {xt : Nat → Nat × (Nat → Int32)} (n d : Nat) {F : Nat} {a1 : Int32} {a2 : Int32} {m m' : xm_S} {r : Int32} (h : au_addSteps F n a1 a2 m = some (r, m')) : xm_Run pg xt (d + 3) 48 0 0 (xQ_i (sh n) r m') 0 [some (xv_r 20), some (xv_i a1), some (xv_i a2), none, none, none, none, none, none, none] [] (xq_2 (sh n) m) 0 0 := by
  unfold au_addSteps at h
  refine xr_aload_n (in_48 rfl) rfl ?_
  refine xq_getr (in_48 rfl) (fo_48 rfl) (sh_20 n) rfl ?_
  refine xr_aload_n (in_48 rfl) rfl ?_
  refine xq_getr (in_48 rfl) (fo_48 rfl) (sh_20 n) rfl ?_
  refine xr_iload_n (in_48 rfl) rfl ?_
  obtain ⟨o575, h⟩ := xg_e h
  refine xq_iald (in_48 rfl) (sh_22 n) o575 ?_
  refine xr_iload_n (in_48 rfl) rfl ?_
  obtain ⟨v620, m621, e622, h⟩ := xc_m_e h
  refine xq_calla [xv_r 10, xv_i (m.1 22 a1.toNatClampNeg), xv_i a2] [] [some (xv_r 10), some (xv_i (m.1 22 a1.toNatClampNeg)), some (xv_i a2), none, none, none, none] (xk_V (in_48 rfl) (sh_10 n)) (cl_48 rfl) rfl rfl rfl rfl (wt_waysOfSet_ok n d e622) ?_
  obtain ⟨w624, h⟩ := xw_k_e h
  refine xr_astore_n [some (xv_r 20), some (xv_i a1), some (xv_i a2), some (xv_r v620), none, none, none, none, none, none] (in_48 rfl) (nl_48 rfl) rfl ?_
  refine xr_aload_n (in_48 rfl) rfl ?_
  refine xq_geti (in_48 rfl) (fo_48 rfl) (sh_w n w624) rfl ?_
  by_cases c625 : (m621.1 v620 2) = 0
  · replace h := (if_pos c625).symm.trans h
    refine xr_ift 24 (in_48 rfl) rfl c625 ?_
    refine xr_iload_n (in_48 rfl) rfl ?_
    refine xr_bipush_ _ (in_48 rfl) (show _ = (16 : Int32) by decide) ?_
    refine xr_imul (in_48 rfl) ?_
    refine xr_iload_n (in_48 rfl) rfl ?_
    refine xr_iadd (in_48 rfl) ?_
    refine xr_istore [some (xv_r 20), some (xv_i a1), some (xv_i a2), some (xv_r v620), some (xv_i ((a1 * (16 : Int32)) + a2)), none, none, none, none, none] (in_48 rfl) (nl_48 rfl) rfl ?_
    refine xr_aload_n (in_48 rfl) rfl ?_
    refine xq_getr (in_48 rfl) (fo_48 rfl) (sh_20 n) rfl ?_
    refine xr_iload (in_48 rfl) rfl ?_
    refine xr_iconst_ _ (in_48 rfl) (show _ = (0 : Int32) by decide) ?_
    obtain ⟨o626, h⟩ := xg_e h
    refine xq_iast (in_48 rfl) (sh_24 n) o626 ?_
    obtain ⟨m627, e628, h⟩ := xs_e h
    rw [← e628]
    clear e628
    refine xr_aload_n (in_48 rfl) rfl ?_
    refine xq_getr (in_48 rfl) (fo_48 rfl) (sh_20 n) rfl ?_
    refine xr_iload (in_48 rfl) rfl ?_
    refine xr_iconst_ _ (in_48 rfl) (show _ = (0 : Int32) by decide) ?_
    obtain ⟨o629, h⟩ := xg_e h
    refine xq_iast (in_48 rfl) (sh_25 n) o629 ?_
    obtain ⟨m630, e631, h⟩ := xs_e h
    rw [← e631]
    clear e631
    refine xr_iconst_ _ (in_48 rfl) (show _ = (0 : Int32) by decide) ?_
    refine xr_istore [some (xv_r 20), some (xv_i a1), some (xv_i a2), some (xv_r v620), some (xv_i ((a1 * (16 : Int32)) + a2)), some (xv_i (0 : Int32)), none, none, none, none] (in_48 rfl) (nl_48 rfl) rfl ?_
    refine xr_forget (loc' := [some (xv_r 20), some (xv_i a1), none, some (xv_r v620), some (xv_i ((a1 * (16 : Int32)) + a2)), some (xv_i (0 : Int32)), none, none, none, none]) (xl_s (xl_s (xl_o (xl_s (xl_s (xl_s (xl_o (xl_o (xl_o (xl_o xl_n)))))))))) ?_
    refine au_addSteps_l51_ok n d w624 (fun m687 h => ?_) F (0 : Int32) m630 h
    refine xr_iconst_ _ (in_48 rfl) (show _ = (1 : Int32) by decide) ?_
    obtain ⟨rfl, rfl⟩ := Prod.mk.inj (Option.some.inj h)
    exact xr_zret (kd_48) (in_48 rfl) (by decide) (Nat.le_refl _) (Nat.le_refl _) ⟨rfl, rfl⟩
  · replace h := (if_neg c625).symm.trans h
    refine xr_iff 24 (in_48 rfl) rfl c625 ?_
    refine xr_iconst_ _ (in_48 rfl) (show _ = (0 : Int32) by decide) ?_
    obtain ⟨rfl, rfl⟩ := Prod.mk.inj (Option.some.inj h)
    exact xr_zret (kd_48) (in_48 rfl) (by decide) (Nat.le_refl _) (Nat.le_refl _) ⟨rfl, rfl⟩
def au_build_l2 (F : Nat) (a523 : Int32) (k : Nat → xm_S → Option (Int32 × Nat × xm_S)) : Nat → Int32 → Nat → xm_S → Option (Int32 × Nat × xm_S)
  | 0, _, _, _ => none
  | fu + 1, a524, n522, m521 => if (16 : Int32) ≤ a524 then k n522 m521 else xc_a n522 (wt_learn F n522 a523 a524 m521) fun v526 n529 m527 => if v526 = 0 then some ((0 : Int32), n529, m527) else au_build_l2 F a523 k fu (a524 + (1 : Int32)) n529 m527
theorem au_build_l2_ok {xt : Nat → Nat × (Nat → Int32)} (d : Nat) {F : Nat} {a523 : Int32} {k : Nat → xm_S → Option (Int32 × Nat × xm_S)} {r : Int32} {m' : xm_S} {n' C0 S0 : Nat} 
    (hk : ∀ (n : Nat) (m : xm_S) (nc ns : Nat), nc + n' ≤ C0 + n → ns + xk_s n' ≤ S0 + xk_s n → k n m = some (r, n', m') → xm_Run pg xt (d + 5) 46 C0 S0 (xQ_i (sh n') r m') 28 [some (xv_r 20), some (xv_i a523), none, none] [] (xq_2 (sh n) m) nc ns) :
    ∀ (fu : Nat) (a524 : Int32) (n522 : Nat) (m521 : xm_S) (nc ns : Nat), nc + n' ≤ C0 + n522 → ns + xk_s n' ≤ S0 + xk_s n522 → au_build_l2 F a523 k fu a524 n522 m521 = some (r, n', m') → xm_Run pg xt (d + 5) 46 C0 S0 (xQ_i (sh n') r m') 2 [some (xv_r 20), some (xv_i a523), some (xv_i a524), none] [] (xq_2 (sh n522) m521) nc ns := by
  intro fu
  induction fu with
  | zero => intro a524 n522 m521 nc ns hnc hns h; cases h
  | succ fu ih =>
    intro a524 n522 m521 nc ns hnc hns h
    rw [au_build_l2] at h
    refine xr_iload_n (in_46 rfl) rfl ?_
    refine xr_bipush_ _ (in_46 rfl) (show _ = (16 : Int32) by decide) ?_
    by_cases c525 : (16 : Int32) ≤ a524
    · replace h := (if_pos c525).symm.trans h
      refine xr_ict 28 (in_46 rfl) rfl c525 ?_
      refine xr_forget (loc' := [some (xv_r 20), some (xv_i a523), none, none]) (xl_s (xl_s (xl_o (xl_o xl_n)))) ?_
      exact hk n522 m521 _ _ (by omega) (by omega) h
    · replace h := (if_neg c525).symm.trans h
      refine xr_icf 28 (in_46 rfl) rfl c525 ?_
      refine xr_aload_n (in_46 rfl) rfl ?_
      refine xq_getr (in_46 rfl) (fo_46 rfl) (sh_20 n522) rfl ?_
      refine xr_iload_n (in_46 rfl) rfl ?_
      refine xr_iload_n (in_46 rfl) rfl ?_
      obtain ⟨v526, n529, m527, e528, l530, h⟩ := xc_a_e h
      have l530c := xk_mono l530
      refine xq_callan (c1 := n529 - n522) (s1 := xk_s n529 - xk_s n522) [xv_r 10, xv_i a523, xv_i a524] [] [some (xv_r 10), some (xv_i a523), some (xv_i a524), none, none] (xk_V (in_46 rfl) (sh_10 n522)) (cl_46 rfl) rfl rfl rfl rfl (wt_learn_ok n522 d (by omega) (by omega) e528) ?_
      by_cases c531 : v526 = 0
      · replace h := (if_pos c531).symm.trans h
        refine xr_iff 22 (in_46 rfl) rfl (fun q => q c531) ?_
        refine xr_iconst_ _ (in_46 rfl) (show _ = (0 : Int32) by decide) ?_
        obtain ⟨rfl, h9⟩ := Prod.mk.inj (Option.some.inj h)
        obtain ⟨rfl, rfl⟩ := Prod.mk.inj h9
        exact xr_zret (kd_46) (in_46 rfl) (by decide) (by omega) (by omega) ⟨rfl, rfl⟩
      · replace h := (if_neg c531).symm.trans h
        refine xr_ift 22 (in_46 rfl) rfl c531 ?_
        refine xr_iinc (a524 + (1 : Int32)) [some (xv_r 20), some (xv_i a523), some (xv_i (a524 + (1 : Int32))), none] (in_46 rfl) rfl (xi_1 _) (nl_46 rfl) rfl ?_
        refine xr_goto 2 (in_46 rfl) rfl ?_
        exact ih (a524 + (1 : Int32)) n529 m527 _ _ (by omega) (by omega) h
def au_build_l72 (F : Nat) (a572 : Int32) (k : Nat → xm_S → Option (Int32 × Nat × xm_S)) : Nat → Int32 → Nat → xm_S → Option (Int32 × Nat × xm_S)
  | 0, _, _, _ => none
  | fu + 1, a573, n571, m570 => if (16 : Int32) ≤ a573 then k n571 m570 else xc_m (au_addSteps F n571 a572 a573 m570) fun v688 m689 => if v688 = 0 then some ((0 : Int32), n571, m689) else au_build_l72 F a572 k fu (a573 + (1 : Int32)) n571 m689
theorem au_build_l72_ok {xt : Nat → Nat × (Nat → Int32)} (d : Nat) {F : Nat} {a572 : Int32} {k : Nat → xm_S → Option (Int32 × Nat × xm_S)} {r : Int32} {m' : xm_S} {n' C0 S0 : Nat} 
    (hk : ∀ (n : Nat) (m : xm_S) (nc ns : Nat), nc + n' ≤ C0 + n → ns + xk_s n' ≤ S0 + xk_s n → k n m = some (r, n', m') → xm_Run pg xt (d + 5) 46 C0 S0 (xQ_i (sh n') r m') 95 [some (xv_r 20), none, some (xv_i a572), none] [] (xq_2 (sh n) m) nc ns) :
    ∀ (fu : Nat) (a573 : Int32) (n571 : Nat) (m570 : xm_S) (nc ns : Nat), nc + n' ≤ C0 + n571 → ns + xk_s n' ≤ S0 + xk_s n571 → au_build_l72 F a572 k fu a573 n571 m570 = some (r, n', m') → xm_Run pg xt (d + 5) 46 C0 S0 (xQ_i (sh n') r m') 72 [some (xv_r 20), none, some (xv_i a572), some (xv_i a573)] [] (xq_2 (sh n571) m570) nc ns := by
  intro fu
  induction fu with
  | zero => intro a573 n571 m570 nc ns hnc hns h; cases h
  | succ fu ih =>
    intro a573 n571 m570 nc ns hnc hns h
    rw [au_build_l72] at h
    refine xr_iload_n (in_46 rfl) rfl ?_
    refine xr_bipush_ _ (in_46 rfl) (show _ = (16 : Int32) by decide) ?_
    by_cases c574 : (16 : Int32) ≤ a573
    · replace h := (if_pos c574).symm.trans h
      refine xr_ict 95 (in_46 rfl) rfl c574 ?_
      refine xr_forget (loc' := [some (xv_r 20), none, some (xv_i a572), none]) (xl_s (xl_o (xl_s (xl_o xl_n)))) ?_
      exact hk n571 m570 _ _ (by omega) (by omega) h
    · replace h := (if_neg c574).symm.trans h
      refine xr_icf 95 (in_46 rfl) rfl c574 ?_
      refine xr_aload_n (in_46 rfl) rfl ?_
      refine xr_iload_n (in_46 rfl) rfl ?_
      refine xr_iload_n (in_46 rfl) rfl ?_
      obtain ⟨v688, m689, e690, h⟩ := xc_m_e h
      refine xq_calla [xv_r 20, xv_i a572, xv_i a573] [] [some (xv_r 20), some (xv_i a572), some (xv_i a573), none, none, none, none, none, none, none] (xk_V (in_46 rfl) (sh_20 n571)) (cl_46 rfl) rfl rfl rfl rfl (au_addSteps_ok n571 (d + 1) e690) ?_
      by_cases c692 : v688 = 0
      · replace h := (if_pos c692).symm.trans h
        refine xr_iff 89 (in_46 rfl) rfl (fun q => q c692) ?_
        refine xr_iconst_ _ (in_46 rfl) (show _ = (0 : Int32) by decide) ?_
        obtain ⟨rfl, h9⟩ := Prod.mk.inj (Option.some.inj h)
        obtain ⟨rfl, rfl⟩ := Prod.mk.inj h9
        exact xr_zret (kd_46) (in_46 rfl) (by decide) (by omega) (by omega) ⟨rfl, rfl⟩
      · replace h := (if_neg c692).symm.trans h
        refine xr_ift 89 (in_46 rfl) rfl c692 ?_
        refine xr_iinc (a573 + (1 : Int32)) [some (xv_r 20), none, some (xv_i a572), some (xv_i (a573 + (1 : Int32)))] (in_46 rfl) rfl (xi_1 _) (nl_46 rfl) rfl ?_
        refine xr_goto 72 (in_46 rfl) rfl ?_
        exact ih (a573 + (1 : Int32)) n571 m689 _ _ (by omega) (by omega) h
def au_build_l56 (F : Nat) (k : Nat → xm_S → Option (Int32 × Nat × xm_S)) : Nat → Int32 → Nat → xm_S → Option (Int32 × Nat × xm_S)
  | 0, _, _, _ => none
  | fu + 1, a567, n566, m565 => if (m565.1 20 6) ≤ a567 then k n566 m565 else if (16 : Int32) ≤ a567 then k n566 m565 else au_build_l72 F a567 (fun (n694 : Nat) (m693 : xm_S) => au_build_l56 F k fu (a567 + (1 : Int32)) n694 m693) F (0 : Int32) n566 m565
theorem au_build_l56_ok {xt : Nat → Nat × (Nat → Int32)} (d : Nat) {F : Nat} {k : Nat → xm_S → Option (Int32 × Nat × xm_S)} {r : Int32} {m' : xm_S} {n' C0 S0 : Nat} 
    (hk : ∀ (n : Nat) (m : xm_S) (nc ns : Nat), nc + n' ≤ C0 + n → ns + xk_s n' ≤ S0 + xk_s n → k n m = some (r, n', m') → xm_Run pg xt (d + 5) 46 C0 S0 (xQ_i (sh n') r m') 101 [none, none, none, none] [] (xq_2 (sh n) m) nc ns) :
    ∀ (fu : Nat) (a567 : Int32) (n566 : Nat) (m565 : xm_S) (nc ns : Nat), nc + n' ≤ C0 + n566 → ns + xk_s n' ≤ S0 + xk_s n566 → au_build_l56 F k fu a567 n566 m565 = some (r, n', m') → xm_Run pg xt (d + 5) 46 C0 S0 (xQ_i (sh n') r m') 56 [some (xv_r 20), none, some (xv_i a567), none] [] (xq_2 (sh n566) m565) nc ns := by
  intro fu
  induction fu with
  | zero => intro a567 n566 m565 nc ns hnc hns h; cases h
  | succ fu ih =>
    intro a567 n566 m565 nc ns hnc hns h
    rw [au_build_l56] at h
    refine xr_iload_n (in_46 rfl) rfl ?_
    refine xr_aload_n (in_46 rfl) rfl ?_
    refine xq_geti (in_46 rfl) (fo_46 rfl) (sh_20 n566) rfl ?_
    by_cases c568 : (m565.1 20 6) ≤ a567
    · replace h := (if_pos c568).symm.trans h
      refine xr_ict 101 (in_46 rfl) rfl c568 ?_
      refine xr_forget (loc' := [none, none, none, none]) (xl_o (xl_o (xl_o (xl_o xl_n)))) ?_
      exact hk n566 m565 _ _ (by omega) (by omega) h
    · replace h := (if_neg c568).symm.trans h
      refine xr_icf 101 (in_46 rfl) rfl c568 ?_
      refine xr_iload_n (in_46 rfl) rfl ?_
      refine xr_bipush_ _ (in_46 rfl) (show _ = (16 : Int32) by decide) ?_
      by_cases c569 : (16 : Int32) ≤ a567
      · replace h := (if_pos c569).symm.trans h
        refine xr_ict 101 (in_46 rfl) rfl c569 ?_
        refine xr_forget (loc' := [none, none, none, none]) (xl_o (xl_o (xl_o (xl_o xl_n)))) ?_
        exact hk n566 m565 _ _ (by omega) (by omega) h
      · replace h := (if_neg c569).symm.trans h
        refine xr_icf 101 (in_46 rfl) rfl c569 ?_
        refine xr_iconst_ _ (in_46 rfl) (show _ = (0 : Int32) by decide) ?_
        refine xr_istore_n [some (xv_r 20), none, some (xv_i a567), some (xv_i (0 : Int32))] (in_46 rfl) (nl_46 rfl) rfl ?_
        refine au_build_l72_ok d (fun n694 m693 nc ns hnc hns h => ?_) F (0 : Int32) n566 m565 _ _ (by omega) (by omega) h
        refine xr_iinc (a567 + (1 : Int32)) [some (xv_r 20), none, some (xv_i (a567 + (1 : Int32))), none] (in_46 rfl) rfl (xi_1 _) (nl_46 rfl) rfl ?_
        refine xr_goto 56 (in_46 rfl) rfl ?_
        exact ih (a567 + (1 : Int32)) n694 m693 _ _ (by omega) (by omega) h
def au_build (F : Nat) (n : Nat) (a1 : Int32) (m : xm_S) : Option (Int32 × Nat × xm_S) := au_build_l2 F a1 (fun (n533 : Nat) (m532 : xm_S) => xc_v (au_listUntils F a1 m532) fun m554 => xg_n (0 : Int32) 16 (xs_m (xw_i m554 22 (0 : Int32).toNatClampNeg ((1 : Int32) <<< (a1 &&& 31))) fun m558 => xg_n (0 : Int32) 16 (xs_m (xw_i m558 23 (0 : Int32).toNatClampNeg (0 : Int32)) fun m561 => xs_m (xw_i m561 20 6 (1 : Int32)) fun m563 => au_build_l56 F (fun (n696 : Nat) (m695 : xm_S) => some ((1 : Int32), n696, m695)) F (0 : Int32) n533 m563))) F (0 : Int32) n m
theorem au_build_ok {xt : Nat → Nat × (Nat → Int32)} (n d : Nat) {F : Nat} {a1 : Int32} {m m' : xm_S} {n' C0 S0 nc ns : Nat} {r : Int32} (hnc : nc + n' ≤ C0 + n) (hns : ns + xk_s n' ≤ S0 + xk_s n) (h : au_build F n a1 m = some (r, n', m')) : xm_Run pg xt (d + 5) 46 C0 S0 (xQ_i (sh n') r m') 0 [some (xv_r 20), some (xv_i a1), none, none] [] (xq_2 (sh n) m) nc ns := by
  unfold au_build at h
  refine xr_iconst_ _ (in_46 rfl) (show _ = (0 : Int32) by decide) ?_
  refine xr_istore_n [some (xv_r 20), some (xv_i a1), some (xv_i (0 : Int32)), none] (in_46 rfl) (nl_46 rfl) rfl ?_
  refine au_build_l2_ok d (fun n533 m532 nc ns hnc hns h => ?_) F (0 : Int32) n m _ _ (by omega) (by omega) h
  refine xr_aload_n (in_46 rfl) rfl ?_
  refine xr_iload_n (in_46 rfl) rfl ?_
  obtain ⟨m554, e555, h⟩ := xc_v_e h
  refine xq_callv [xv_r 20, xv_i a1] [] [some (xv_r 20), some (xv_i a1), none] (xk_V (in_46 rfl) (sh_20 n533)) (cl_46 rfl) rfl rfl rfl rfl (au_listUntils_ok n533 (d + 3) e555) ?_
  refine xr_aload_n (in_46 rfl) rfl ?_
  refine xq_getr (in_46 rfl) (fo_46 rfl) (sh_20 n533) rfl ?_
  refine xr_iconst_ _ (in_46 rfl) (show _ = (0 : Int32) by decide) ?_
  refine xr_iconst_ _ (in_46 rfl) (show _ = (1 : Int32) by decide) ?_
  refine xr_iload_n (in_46 rfl) rfl ?_
  refine xr_ishl (in_46 rfl) ?_
  obtain ⟨o557, h⟩ := xg_e h
  refine xq_iast (in_46 rfl) (sh_22 n533) o557 ?_
  obtain ⟨m558, e559, h⟩ := xs_e h
  rw [← e559]
  clear e559
  refine xr_aload_n (in_46 rfl) rfl ?_
  refine xq_getr (in_46 rfl) (fo_46 rfl) (sh_20 n533) rfl ?_
  refine xr_iconst_ _ (in_46 rfl) (show _ = (0 : Int32) by decide) ?_
  refine xr_iconst_ _ (in_46 rfl) (show _ = (0 : Int32) by decide) ?_
  obtain ⟨o560, h⟩ := xg_e h
  refine xq_iast (in_46 rfl) (sh_23 n533) o560 ?_
  obtain ⟨m561, e562, h⟩ := xs_e h
  rw [← e562]
  clear e562
  refine xr_aload_n (in_46 rfl) rfl ?_
  refine xr_iconst_ _ (in_46 rfl) (show _ = (1 : Int32) by decide) ?_
  refine xq_put (in_46 rfl) (fo_46 rfl) (sh_20 n533) rfl (Or.inl rfl) ?_
  obtain ⟨m563, e564, h⟩ := xs_e h
  rw [← e564]
  clear e564
  refine xr_iconst_ _ (in_46 rfl) (show _ = (0 : Int32) by decide) ?_
  refine xr_istore_n [some (xv_r 20), some (xv_i a1), some (xv_i (0 : Int32)), none] (in_46 rfl) (nl_46 rfl) rfl ?_
  refine xr_forget (loc' := [some (xv_r 20), none, some (xv_i (0 : Int32)), none]) (xl_s (xl_o (xl_s (xl_o xl_n)))) ?_
  refine au_build_l56_ok d (fun n696 m695 nc ns hnc hns h => ?_) F (0 : Int32) n533 m563 _ _ (by omega) (by omega) h
  refine xr_iconst_ _ (in_46 rfl) (show _ = (1 : Int32) by decide) ?_
  obtain ⟨rfl, h9⟩ := Prod.mk.inj (Option.some.inj h)
  obtain ⟨rfl, rfl⟩ := Prod.mk.inj h9
  exact xr_zret (kd_46) (in_46 rfl) (by decide) (by omega) (by omega) ⟨rfl, rfl⟩
def mk_states (F : Nat) (n : Nat) (a1 : Int32) (m : xm_S) : Option (Int32 × Nat × xm_S) := if (bk_knows a1 m) = 0 then some ((-1 : Int32), n, m) else xc_a n (au_build F n a1 m) fun v697 n700 m698 => if v697 = 0 then some ((-2 : Int32), n700, m698) else some (m698.1 20 6, n700, m698)
theorem mk_states_ok {xt : Nat → Nat × (Nat → Int32)} (n d : Nat) {F : Nat} {a1 : Int32} {m m' : xm_S} {n' C0 S0 nc ns : Nat} {r : Int32} (hnc : nc + n' ≤ C0 + n) (hns : ns + xk_s n' ≤ S0 + xk_s n) (h : mk_states F n a1 m = some (r, n', m')) : xm_Run pg xt (d + 6) 45 C0 S0 (xQ_i (sh n') r m') 0 [some (xv_r 0), some (xv_i a1)] [] (xq_2 (sh n) m) nc ns := by
  unfold mk_states at h
  refine xr_aload_n (in_45 rfl) rfl ?_
  refine xq_getr (in_45 rfl) (fo_45 rfl) (sh_0 n) rfl ?_
  refine xr_iload_n (in_45 rfl) rfl ?_
  refine xq_calla [xv_r 1, xv_i a1] [] [some (xv_r 1), some (xv_i a1)] (xk_V (in_45 rfl) (sh_1 n)) (cl_45 rfl) rfl rfl rfl rfl (bk_knows_ok n (d + 5) rfl) ?_
  by_cases c520 : (bk_knows a1 m) = 0
  · replace h := (if_pos c520).symm.trans h
    refine xr_iff 13 (in_45 rfl) rfl (fun q => q c520) ?_
    refine xr_iconst_ _ (in_45 rfl) (show _ = (-1 : Int32) by decide) ?_
    obtain ⟨rfl, h9⟩ := Prod.mk.inj (Option.some.inj h)
    obtain ⟨rfl, rfl⟩ := Prod.mk.inj h9
    exact xr_iret (kd_45) (in_45 rfl) (by omega) (by omega) ⟨rfl, rfl⟩
  · replace h := (if_neg c520).symm.trans h
    refine xr_ift 13 (in_45 rfl) rfl c520 ?_
    refine xr_aload_n (in_45 rfl) rfl ?_
    refine xq_getr (in_45 rfl) (fo_45 rfl) (sh_0 n) rfl ?_
    refine xr_iload_n (in_45 rfl) rfl ?_
    obtain ⟨v697, n700, m698, e699, l701, h⟩ := xc_a_e h
    have l701c := xk_mono l701
    refine xq_callan (c1 := n700 - n) (s1 := xk_s n700 - xk_s n) [xv_r 20, xv_i a1] [] [some (xv_r 20), some (xv_i a1), none, none] (xk_V (in_45 rfl) (sh_20 n)) (cl_45 rfl) rfl rfl rfl rfl (au_build_ok n d (by omega) (by omega) e699) ?_
    by_cases c702 : v697 = 0
    · replace h := (if_pos c702).symm.trans h
      refine xr_ift 34 (in_45 rfl) rfl c702 ?_
      refine xr_bipush_ _ (in_45 rfl) (show _ = (-2 : Int32) by decide) ?_
      obtain ⟨rfl, h9⟩ := Prod.mk.inj (Option.some.inj h)
      obtain ⟨rfl, rfl⟩ := Prod.mk.inj h9
      exact xr_iret (kd_45) (in_45 rfl) (by omega) (by omega) ⟨rfl, rfl⟩
    · replace h := (if_neg c702).symm.trans h
      refine xr_iff 34 (in_45 rfl) rfl c702 ?_
      refine xr_aload_n (in_45 rfl) rfl ?_
      refine xq_getr (in_45 rfl) (fo_45 rfl) (sh_0 n700) rfl ?_
      refine xq_geti (in_45 rfl) (fo_45 rfl) (sh_20 n700) rfl ?_
      refine xr_goto 36 (in_45 rfl) rfl ?_
      obtain ⟨rfl, h9⟩ := Prod.mk.inj (Option.some.inj h)
      obtain ⟨rfl, rfl⟩ := Prod.mk.inj h9
      exact xr_iret (kd_45) (in_45 rfl) (by omega) (by omega) ⟨rfl, rfl⟩
def wi_forget (F : Nat) (m : xm_S) : Option (xm_S) := xs_m (xw_i m 30 1 (0 : Int32)) fun m706 => xs_m (xw_i m706 30 2 (0 : Int32)) fun m708 => xs_m (xw_i m708 30 3 (0 : Int32)) fun m710 => xs_m (xw_i m710 30 4 (0 : Int32)) fun m712 => some m712
theorem wi_forget_ok {xt : Nat → Nat × (Nat → Int32)} (n d : Nat) {F : Nat} {m m' : xm_S} (h : wi_forget F m = some m') : xm_Run pg xt d 55 0 0 (xQ_v (sh n) m') 0 [some (xv_r 30)] [] (xq_2 (sh n) m) 0 0 := by
  unfold wi_forget at h
  refine xr_aload_n (in_55 rfl) rfl ?_
  refine xr_iconst_ _ (in_55 rfl) (show _ = (0 : Int32) by decide) ?_
  refine xq_put (in_55 rfl) (fo_55 rfl) (sh_30 n) rfl (Or.inl rfl) ?_
  obtain ⟨m706, e707, h⟩ := xs_e h
  rw [← e707]
  clear e707
  refine xr_aload_n (in_55 rfl) rfl ?_
  refine xr_iconst_ _ (in_55 rfl) (show _ = (0 : Int32) by decide) ?_
  refine xq_put (in_55 rfl) (fo_55 rfl) (sh_30 n) rfl (Or.inl rfl) ?_
  obtain ⟨m708, e709, h⟩ := xs_e h
  rw [← e709]
  clear e709
  refine xr_aload_n (in_55 rfl) rfl ?_
  refine xr_iconst_ _ (in_55 rfl) (show _ = (0 : Int32) by decide) ?_
  refine xq_put (in_55 rfl) (fo_55 rfl) (sh_30 n) rfl (Or.inl rfl) ?_
  obtain ⟨m710, e711, h⟩ := xs_e h
  rw [← e711]
  clear e711
  refine xr_aload_n (in_55 rfl) rfl ?_
  refine xr_iconst_ _ (in_55 rfl) (show _ = (0 : Int32) by decide) ?_
  refine xq_put (in_55 rfl) (fo_55 rfl) (sh_30 n) rfl (Or.inl rfl) ?_
  obtain ⟨m712, e713, h⟩ := xs_e h
  rw [← e713]
  clear e713
  obtain rfl := Option.some.inj h
  exact xr_vret (kd_55) (in_55 rfl) (Nat.le_refl _) (Nat.le_refl _) ⟨rfl, rfl⟩
def gm_counterOf (a0 : Int64) (a1 : Int32) : Int32 := (((a0 >>> (((4 : Int32) * a1).toInt64 &&& 63)) &&& (15 : Int64)).toInt32) - (1 : Int32)
theorem gm_counterOf_ok {xt : Nat → Nat × (Nat → Int32)} (n d : Nat) {a0 : Int64} {a1 : Int32} {m : xm_S} {r : Int32} (h : gm_counterOf a0 a1 = r) : xm_Run pg xt d 58 0 0 (xQ_i (sh n) r m) 0 [some (xv_l a0), none, some (xv_i a1)] [] (xq_2 (sh n) m) 0 0 := by
  unfold gm_counterOf at h
  refine xr_lload_n (in_58 rfl) rfl ?_
  refine xr_iconst_ _ (in_58 rfl) (show _ = (4 : Int32) by decide) ?_
  refine xr_iload_n (in_58 rfl) rfl ?_
  refine xr_imul (in_58 rfl) ?_
  refine xr_lshr (in_58 rfl) ?_
  refine xr_ldc2 (in_58 rfl) (ko_58 rfl) ?_
  refine xr_land (in_58 rfl) ?_
  refine xr_l2i (in_58 rfl) ?_
  refine xr_iconst_ _ (in_58 rfl) (show _ = (1 : Int32) by decide) ?_
  refine xr_isub (in_58 rfl) ?_
  subst h
  exact xr_iret (kd_58) (in_58 rfl) (Nat.le_refl _) (Nat.le_refl _) ⟨rfl, rfl⟩
def gm_raised (a0 : Int64) (a1 : Int32) (a2 : Int32) : Int64 := if (gm_counterOf a0 a1) < a2 then a0 + (((a2 - (gm_counterOf a0 a1)).toInt64) <<< (((4 : Int32) * a1).toInt64 &&& 63)) else a0
theorem gm_raised_ok {xt : Nat → Nat × (Nat → Int32)} (n d : Nat) {a0 : Int64} {a1 : Int32} {a2 : Int32} {m : xm_S} {r : Int64} (h : gm_raised a0 a1 a2 = r) : xm_Run pg xt (d + 1) 57 0 0 (xQ_l (sh n) r m) 0 [some (xv_l a0), none, some (xv_i a1), some (xv_i a2), none] [] (xq_2 (sh n) m) 0 0 := by
  unfold gm_raised at h
  refine xr_lload_n (in_57 rfl) rfl ?_
  refine xr_iload_n (in_57 rfl) rfl ?_
  refine xq_calla [xv_l a0, xv_i a1] [] [some (xv_l a0), none, some (xv_i a1)] (xk_S (in_57 rfl)) (cl_57 rfl) rfl rfl rfl rfl (gm_counterOf_ok n d rfl) ?_
  refine xr_istore [some (xv_l a0), none, some (xv_i a1), some (xv_i a2), some (xv_i (gm_counterOf a0 a1))] (in_57 rfl) (nl_57 rfl) rfl ?_
  refine xr_iload (in_57 rfl) rfl ?_
  refine xr_iload_n (in_57 rfl) rfl ?_
  by_cases c729 : (gm_counterOf a0 a1) < a2
  · replace h := (if_pos c729).symm.trans h
    refine xr_ict 17 (in_57 rfl) rfl c729 ?_
    refine xr_lload_n (in_57 rfl) rfl ?_
    refine xr_iload_n (in_57 rfl) rfl ?_
    refine xr_iload (in_57 rfl) rfl ?_
    refine xr_isub (in_57 rfl) ?_
    refine xr_i2l (in_57 rfl) ?_
    refine xr_iconst_ _ (in_57 rfl) (show _ = (4 : Int32) by decide) ?_
    refine xr_iload_n (in_57 rfl) rfl ?_
    refine xr_imul (in_57 rfl) ?_
    refine xr_lshl (in_57 rfl) ?_
    refine xr_ladd (in_57 rfl) ?_
    subst h
    exact xr_lret (kd_57) (in_57 rfl) (Nat.le_refl _) (Nat.le_refl _) ⟨rfl, rfl⟩
  · replace h := (if_neg c729).symm.trans h
    refine xr_icf 17 (in_57 rfl) rfl c729 ?_
    refine xr_lload_n (in_57 rfl) rfl ?_
    refine xr_goto 28 (in_57 rfl) rfl ?_
    subst h
    exact xr_lret (kd_57) (in_57 rfl) (Nat.le_refl _) (Nat.le_refl _) ⟨rfl, rfl⟩
def gm_allRaised_l6 (F : Nat) (a765 : Int32) (a766 : Int32) (k : Int64 → xm_S → Option (Int64 × xm_S)) : Nat → Int64 → Int32 → xm_S → Option (Int64 × xm_S)
  | 0, _, _, _ => none
  | fu + 1, a767, a768, m764 => if (16 : Int32) ≤ a768 then k a767 m764 else if (a765 >>> (a768 &&& 31)) = 0 then k a767 m764 else if ((a765 >>> (a768 &&& 31)) &&& (1 : Int32)) = 0 then gm_allRaised_l6 F a765 a766 k fu a767 (a768 + (1 : Int32)) m764 else gm_allRaised_l6 F a765 a766 k fu (gm_raised a767 a768 a766) (a768 + (1 : Int32)) m764
theorem gm_allRaised_l6_ok {xt : Nat → Nat × (Nat → Int32)} (n d : Nat) {F : Nat} {a765 : Int32} {a766 : Int32} {k : Int64 → xm_S → Option (Int64 × xm_S)} {r : Int64} {m' : xm_S} 
    (hk : ∀ (z4 : Int64) (m : xm_S), k z4 m = some (r, m') → xm_Run pg xt (d + 2) 60 0 0 (xQ_l (sh n) r m') 45 [none, none, none, none, some (xv_l z4), none, none] [] (xq_2 (sh n) m) 0 0) :
    ∀ (fu : Nat) (a767 : Int64) (a768 : Int32) (m764 : xm_S), gm_allRaised_l6 F a765 a766 k fu a767 a768 m764 = some (r, m') → xm_Run pg xt (d + 2) 60 0 0 (xQ_l (sh n) r m') 6 [none, none, some (xv_i a765), some (xv_i a766), some (xv_l a767), none, some (xv_i a768)] [] (xq_2 (sh n) m764) 0 0 := by
  intro fu
  induction fu with
  | zero => intro a767 a768 m764 h; cases h
  | succ fu ih =>
    intro a767 a768 m764 h
    rw [gm_allRaised_l6] at h
    refine xr_iload (in_60 rfl) rfl ?_
    refine xr_bipush_ _ (in_60 rfl) (show _ = (16 : Int32) by decide) ?_
    by_cases c769 : (16 : Int32) ≤ a768
    · replace h := (if_pos c769).symm.trans h
      refine xr_ict 45 (in_60 rfl) rfl c769 ?_
      refine xr_forget (loc' := [none, none, none, none, some (xv_l a767), none, none]) (xl_o (xl_o (xl_o (xl_o (xl_s (xl_o (xl_o xl_n))))))) ?_
      exact hk a767 m764 h
    · replace h := (if_neg c769).symm.trans h
      refine xr_icf 45 (in_60 rfl) rfl c769 ?_
      refine xr_iload_n (in_60 rfl) rfl ?_
      refine xr_iload (in_60 rfl) rfl ?_
      refine xr_ishr (in_60 rfl) ?_
      by_cases c770 : (a765 >>> (a768 &&& 31)) = 0
      · replace h := (if_pos c770).symm.trans h
        refine xr_ift 45 (in_60 rfl) rfl c770 ?_
        refine xr_forget (loc' := [none, none, none, none, some (xv_l a767), none, none]) (xl_o (xl_o (xl_o (xl_o (xl_s (xl_o (xl_o xl_n))))))) ?_
        exact hk a767 m764 h
      · replace h := (if_neg c770).symm.trans h
        refine xr_iff 45 (in_60 rfl) rfl c770 ?_
        refine xr_iload_n (in_60 rfl) rfl ?_
        refine xr_iload (in_60 rfl) rfl ?_
        refine xr_ishr (in_60 rfl) ?_
        refine xr_iconst_ _ (in_60 rfl) (show _ = (1 : Int32) by decide) ?_
        refine xr_iand (in_60 rfl) ?_
        by_cases c771 : ((a765 >>> (a768 &&& 31)) &&& (1 : Int32)) = 0
        · replace h := (if_pos c771).symm.trans h
          refine xr_ift 39 (in_60 rfl) rfl c771 ?_
          refine xr_iinc (a768 + (1 : Int32)) [none, none, some (xv_i a765), some (xv_i a766), some (xv_l a767), none, some (xv_i (a768 + (1 : Int32)))] (in_60 rfl) rfl (xi_1 _) (nl_60 rfl) rfl ?_
          refine xr_goto 6 (in_60 rfl) rfl ?_
          exact ih a767 (a768 + (1 : Int32)) m764 h
        · replace h := (if_neg c771).symm.trans h
          refine xr_iff 39 (in_60 rfl) rfl c771 ?_
          refine xr_lload (in_60 rfl) rfl ?_
          refine xr_iload (in_60 rfl) rfl ?_
          refine xr_iload_n (in_60 rfl) rfl ?_
          refine xq_calla [xv_l a767, xv_i a768, xv_i a766] [] [some (xv_l a767), none, some (xv_i a768), some (xv_i a766), none] (xk_S (in_60 rfl)) (cl_60 rfl) rfl rfl rfl rfl (gm_raised_ok n d rfl) ?_
          refine xr_lstore [none, none, some (xv_i a765), some (xv_i a766), some (xv_l (gm_raised a767 a768 a766)), none, some (xv_i a768)] (in_60 rfl) (nl_60 rfl) rfl ?_
          refine xr_iinc (a768 + (1 : Int32)) [none, none, some (xv_i a765), some (xv_i a766), some (xv_l (gm_raised a767 a768 a766)), none, some (xv_i (a768 + (1 : Int32)))] (in_60 rfl) rfl (xi_1 _) (nl_60 rfl) rfl ?_
          refine xr_goto 6 (in_60 rfl) rfl ?_
          exact ih (gm_raised a767 a768 a766) (a768 + (1 : Int32)) m764 h
def gm_allRaised (F : Nat) (a0 : Int64) (a1 : Int32) (a2 : Int32) (m : xm_S) : Option (Int64 × xm_S) := gm_allRaised_l6 F a1 a2 (fun (x772 : Int64) (m773 : xm_S) => some (x772, m773)) F a0 (0 : Int32) m
theorem gm_allRaised_ok {xt : Nat → Nat × (Nat → Int32)} (n d : Nat) {F : Nat} {a0 : Int64} {a1 : Int32} {a2 : Int32} {m m' : xm_S} {r : Int64} (h : gm_allRaised F a0 a1 a2 m = some (r, m')) : xm_Run pg xt (d + 2) 60 0 0 (xQ_l (sh n) r m') 0 [some (xv_l a0), none, some (xv_i a1), some (xv_i a2), none, none, none] [] (xq_2 (sh n) m) 0 0 := by
  unfold gm_allRaised at h
  refine xr_lload_n (in_60 rfl) rfl ?_
  refine xr_lstore [some (xv_l a0), none, some (xv_i a1), some (xv_i a2), some (xv_l a0), none, none] (in_60 rfl) (nl_60 rfl) rfl ?_
  refine xr_iconst_ _ (in_60 rfl) (show _ = (0 : Int32) by decide) ?_
  refine xr_istore [some (xv_l a0), none, some (xv_i a1), some (xv_i a2), some (xv_l a0), none, some (xv_i (0 : Int32))] (in_60 rfl) (nl_60 rfl) rfl ?_
  refine xr_forget (loc' := [none, none, some (xv_i a1), some (xv_i a2), some (xv_l a0), none, some (xv_i (0 : Int32))]) (xl_o (xl_o (xl_s (xl_s (xl_s (xl_o (xl_s xl_n))))))) ?_
  refine gm_allRaised_l6_ok n d (fun x772 m773 h => ?_) F a0 (0 : Int32) m h
  refine xr_lload (in_60 rfl) rfl ?_
  obtain ⟨rfl, rfl⟩ := Prod.mk.inj (Option.some.inj h)
  exact xr_lret (kd_60) (in_60 rfl) (Nat.le_refl _) (Nat.le_refl _) ⟨rfl, rfl⟩
def gm_rowAfter_l6 (F : Nat) (a747 : Int64) (a748 : Int32) (a749 : Int32) (k : Int64 → xm_S → Option (Int64 × xm_S)) : Nat → Int64 → Int32 → xm_S → Option (Int64 × xm_S)
  | 0, _, _, _ => none
  | fu + 1, a750, a751, m746 => if (m746.1 20 6) ≤ a751 then k a750 m746 else if 0 ≤ (gm_counterOf a747 a751) then xg_n ((a751 * (16 : Int32)) + a748) 256 (xj_j (fun (u759 : Unit) => xg_n ((a751 * (16 : Int32)) + a748) 256 (xc_m (gm_allRaised F a750 (m746.1 24 ((a751 * (16 : Int32)) + a748).toNatClampNeg) (gm_counterOf a747 a751) m746) fun v774 m775 => xg_n ((a751 * (16 : Int32)) + a748) 256 (xc_m (gm_allRaised F v774 (m775.1 25 ((a751 * (16 : Int32)) + a748).toNatClampNeg) ((gm_counterOf a747 a751) + (1 : Int32)) m775) fun v779 m780 => gm_rowAfter_l6 F a747 a748 a749 k fu v779 (a751 + (1 : Int32)) m780))) fun j760 => if (m746.1 25 ((a751 * (16 : Int32)) + a748).toNatClampNeg) = 0 then j760 () else if (gm_counterOf a747 a751) < a749 then j760 () else some ((-1 : Int64), m746)) else gm_rowAfter_l6 F a747 a748 a749 k fu a750 (a751 + (1 : Int32)) m746
theorem gm_rowAfter_l6_ok {xt : Nat → Nat × (Nat → Int32)} (n d : Nat) {F : Nat} {a747 : Int64} {a748 : Int32} {a749 : Int32} {k : Int64 → xm_S → Option (Int64 × xm_S)} {r : Int64} {m' : xm_S} 
    (hk : ∀ (z5 : Int64) (m : xm_S), k z5 m = some (r, m') → xm_Run pg xt (d + 3) 59 0 0 (xQ_l (sh n) r m') 113 [none, none, none, none, none, some (xv_l z5), none, none, none, none] [] (xq_2 (sh n) m) 0 0) :
    ∀ (fu : Nat) (a750 : Int64) (a751 : Int32) (m746 : xm_S), gm_rowAfter_l6 F a747 a748 a749 k fu a750 a751 m746 = some (r, m') → xm_Run pg xt (d + 3) 59 0 0 (xQ_l (sh n) r m') 6 [some (xv_r 26), some (xv_l a747), none, some (xv_i a748), some (xv_i a749), some (xv_l a750), none, some (xv_i a751), none, none] [] (xq_2 (sh n) m746) 0 0 := by
  intro fu
  induction fu with
  | zero => intro a750 a751 m746 h; cases h
  | succ fu ih =>
    intro a750 a751 m746 h
    rw [gm_rowAfter_l6] at h
    refine xr_iload (in_59 rfl) rfl ?_
    refine xr_aload_n (in_59 rfl) rfl ?_
    refine xq_getr (in_59 rfl) (fo_59 rfl) (sh_26 n) rfl ?_
    refine xq_geti (in_59 rfl) (fo_59 rfl) (sh_20 n) rfl ?_
    by_cases c752 : (m746.1 20 6) ≤ a751
    · replace h := (if_pos c752).symm.trans h
      refine xr_ict 113 (in_59 rfl) rfl c752 ?_
      refine xr_forget (loc' := [none, none, none, none, none, some (xv_l a750), none, none, none, none]) (xl_o (xl_o (xl_o (xl_o (xl_o (xl_s (xl_o (xl_o (xl_o (xl_o xl_n)))))))))) ?_
      exact hk a750 m746 h
    · replace h := (if_neg c752).symm.trans h
      refine xr_icf 113 (in_59 rfl) rfl c752 ?_
      refine xr_lload_n (in_59 rfl) rfl ?_
      refine xr_iload (in_59 rfl) rfl ?_
      refine xq_calla [xv_l a747, xv_i a751] [] [some (xv_l a747), none, some (xv_i a751)] (xk_S (in_59 rfl)) (cl_59 rfl) rfl rfl rfl rfl (gm_counterOf_ok n (d + 2) rfl) ?_
      refine xr_istore [some (xv_r 26), some (xv_l a747), none, some (xv_i a748), some (xv_i a749), some (xv_l a750), none, some (xv_i a751), some (xv_i (gm_counterOf a747 a751)), none] (in_59 rfl) (nl_59 rfl) rfl ?_
      refine xr_iload (in_59 rfl) rfl ?_
      by_cases c753 : 0 ≤ (gm_counterOf a747 a751)
      · replace h := (if_pos c753).symm.trans h
        refine xr_ift 34 (in_59 rfl) rfl c753 ?_
        refine xr_iload (in_59 rfl) rfl ?_
        refine xr_bipush_ _ (in_59 rfl) (show _ = (16 : Int32) by decide) ?_
        refine xr_imul (in_59 rfl) ?_
        refine xr_iload_n (in_59 rfl) rfl ?_
        refine xr_iadd (in_59 rfl) ?_
        refine xr_istore [some (xv_r 26), some (xv_l a747), none, some (xv_i a748), some (xv_i a749), some (xv_l a750), none, some (xv_i a751), some (xv_i (gm_counterOf a747 a751)), some (xv_i ((a751 * (16 : Int32)) + a748))] (in_59 rfl) (nl_59 rfl) rfl ?_
        refine xr_aload_n (in_59 rfl) rfl ?_
        refine xq_getr (in_59 rfl) (fo_59 rfl) (sh_26 n) rfl ?_
        refine xq_getr (in_59 rfl) (fo_59 rfl) (sh_20 n) rfl ?_
        refine xr_iload (in_59 rfl) rfl ?_
        obtain ⟨o754, h⟩ := xg_e h
        refine xq_iald (in_59 rfl) (sh_25 n) o754 ?_
        obtain ⟨j760, e761, h⟩ := xj_e h
        have q762 : ∀ (u759 : Unit), j760 u759 = some (r, m') → xm_Run pg xt (d + 3) 59 0 0 (xQ_l (sh n) r m') 67 [some (xv_r 26), some (xv_l a747), none, some (xv_i a748), some (xv_i a749), some (xv_l a750), none, some (xv_i a751), some (xv_i (gm_counterOf a747 a751)), some (xv_i ((a751 * (16 : Int32)) + a748))] [] (xq_2 (sh n) m746) 0 0 := by
          intro u759 h
          rw [e761] at h
          refine xr_lload (in_59 rfl) rfl ?_
          refine xr_aload_n (in_59 rfl) rfl ?_
          refine xq_getr (in_59 rfl) (fo_59 rfl) (sh_26 n) rfl ?_
          refine xq_getr (in_59 rfl) (fo_59 rfl) (sh_20 n) rfl ?_
          refine xr_iload (in_59 rfl) rfl ?_
          obtain ⟨o763, h⟩ := xg_e h
          refine xq_iald (in_59 rfl) (sh_24 n) o763 ?_
          refine xr_iload (in_59 rfl) rfl ?_
          obtain ⟨v774, m775, e776, h⟩ := xc_m_e h
          refine xq_calla [xv_l a750, xv_i (m746.1 24 ((a751 * (16 : Int32)) + a748).toNatClampNeg), xv_i (gm_counterOf a747 a751)] [] [some (xv_l a750), none, some (xv_i (m746.1 24 ((a751 * (16 : Int32)) + a748).toNatClampNeg)), some (xv_i (gm_counterOf a747 a751)), none, none, none] (xk_S (in_59 rfl)) (cl_59 rfl) rfl rfl rfl rfl (gm_allRaised_ok n d e776) ?_
          refine xr_lstore [some (xv_r 26), some (xv_l a747), none, some (xv_i a748), some (xv_i a749), some (xv_l v774), none, some (xv_i a751), some (xv_i (gm_counterOf a747 a751)), some (xv_i ((a751 * (16 : Int32)) + a748))] (in_59 rfl) (nl_59 rfl) rfl ?_
          refine xr_lload (in_59 rfl) rfl ?_
          refine xr_aload_n (in_59 rfl) rfl ?_
          refine xq_getr (in_59 rfl) (fo_59 rfl) (sh_26 n) rfl ?_
          refine xq_getr (in_59 rfl) (fo_59 rfl) (sh_20 n) rfl ?_
          refine xr_iload (in_59 rfl) rfl ?_
          obtain ⟨o778, h⟩ := xg_e h
          refine xq_iald (in_59 rfl) (sh_25 n) o778 ?_
          refine xr_iload (in_59 rfl) rfl ?_
          refine xr_iconst_ _ (in_59 rfl) (show _ = (1 : Int32) by decide) ?_
          refine xr_iadd (in_59 rfl) ?_
          obtain ⟨v779, m780, e781, h⟩ := xc_m_e h
          refine xq_calla [xv_l v774, xv_i (m775.1 25 ((a751 * (16 : Int32)) + a748).toNatClampNeg), xv_i ((gm_counterOf a747 a751) + (1 : Int32))] [] [some (xv_l v774), none, some (xv_i (m775.1 25 ((a751 * (16 : Int32)) + a748).toNatClampNeg)), some (xv_i ((gm_counterOf a747 a751) + (1 : Int32))), none, none, none] (xk_S (in_59 rfl)) (cl_59 rfl) rfl rfl rfl rfl (gm_allRaised_ok n d e781) ?_
          refine xr_lstore [some (xv_r 26), some (xv_l a747), none, some (xv_i a748), some (xv_i a749), some (xv_l v779), none, some (xv_i a751), some (xv_i (gm_counterOf a747 a751)), some (xv_i ((a751 * (16 : Int32)) + a748))] (in_59 rfl) (nl_59 rfl) rfl ?_
          refine xr_iinc (a751 + (1 : Int32)) [some (xv_r 26), some (xv_l a747), none, some (xv_i a748), some (xv_i a749), some (xv_l v779), none, some (xv_i (a751 + (1 : Int32))), some (xv_i (gm_counterOf a747 a751)), some (xv_i ((a751 * (16 : Int32)) + a748))] (in_59 rfl) rfl (xi_1 _) (nl_59 rfl) rfl ?_
          refine xr_goto 6 (in_59 rfl) rfl ?_
          refine xr_forget (loc' := [some (xv_r 26), some (xv_l a747), none, some (xv_i a748), some (xv_i a749), some (xv_l v779), none, some (xv_i (a751 + (1 : Int32))), none, none]) (xl_s (xl_s (xl_o (xl_s (xl_s (xl_s (xl_o (xl_s (xl_o (xl_o xl_n)))))))))) ?_
          exact ih v779 (a751 + (1 : Int32)) m780 h
        clear e761
        by_cases c783 : (m746.1 25 ((a751 * (16 : Int32)) + a748).toNatClampNeg) = 0
        · replace h := (if_pos c783).symm.trans h
          refine xr_ift 67 (in_59 rfl) rfl c783 ?_
          exact q762 () h
        · replace h := (if_neg c783).symm.trans h
          refine xr_iff 67 (in_59 rfl) rfl c783 ?_
          refine xr_iload (in_59 rfl) rfl ?_
          refine xr_iload (in_59 rfl) rfl ?_
          by_cases c784 : (gm_counterOf a747 a751) < a749
          · replace h := (if_pos c784).symm.trans h
            refine xr_ict 67 (in_59 rfl) rfl c784 ?_
            exact q762 () h
          · replace h := (if_neg c784).symm.trans h
            refine xr_icf 67 (in_59 rfl) rfl c784 ?_
            refine xr_ldc2 (in_59 rfl) (ko_59 rfl) ?_
            obtain ⟨rfl, rfl⟩ := Prod.mk.inj (Option.some.inj h)
            exact xr_lret (kd_59) (in_59 rfl) (Nat.le_refl _) (Nat.le_refl _) ⟨rfl, rfl⟩
      · replace h := (if_neg c753).symm.trans h
        refine xr_iff 34 (in_59 rfl) rfl c753 ?_
        refine xr_goto 107 (in_59 rfl) rfl ?_
        refine xr_iinc (a751 + (1 : Int32)) [some (xv_r 26), some (xv_l a747), none, some (xv_i a748), some (xv_i a749), some (xv_l a750), none, some (xv_i (a751 + (1 : Int32))), some (xv_i (gm_counterOf a747 a751)), none] (in_59 rfl) rfl (xi_1 _) (nl_59 rfl) rfl ?_
        refine xr_goto 6 (in_59 rfl) rfl ?_
        refine xr_forget (loc' := [some (xv_r 26), some (xv_l a747), none, some (xv_i a748), some (xv_i a749), some (xv_l a750), none, some (xv_i (a751 + (1 : Int32))), none, none]) (xl_s (xl_s (xl_o (xl_s (xl_s (xl_s (xl_o (xl_s (xl_o (xl_o xl_n)))))))))) ?_
        exact ih a750 (a751 + (1 : Int32)) m746 h
def gm_rowAfter (F : Nat) (a1 : Int64) (a2 : Int32) (a3 : Int32) (m : xm_S) : Option (Int64 × xm_S) := gm_rowAfter_l6 F a1 a2 a3 (fun (x785 : Int64) (m786 : xm_S) => some (x785, m786)) F (0 : Int64) (0 : Int32) m
theorem gm_rowAfter_ok {xt : Nat → Nat × (Nat → Int32)} (n d : Nat) {F : Nat} {a1 : Int64} {a2 : Int32} {a3 : Int32} {m m' : xm_S} {r : Int64} (h : gm_rowAfter F a1 a2 a3 m = some (r, m')) : xm_Run pg xt (d + 3) 59 0 0 (xQ_l (sh n) r m') 0 [some (xv_r 26), some (xv_l a1), none, some (xv_i a2), some (xv_i a3), none, none, none, none, none] [] (xq_2 (sh n) m) 0 0 := by
  unfold gm_rowAfter at h
  refine xr_lconst_ _ (in_59 rfl) (show _ = (0 : Int64) by decide) ?_
  refine xr_lstore [some (xv_r 26), some (xv_l a1), none, some (xv_i a2), some (xv_i a3), some (xv_l (0 : Int64)), none, none, none, none] (in_59 rfl) (nl_59 rfl) rfl ?_
  refine xr_iconst_ _ (in_59 rfl) (show _ = (0 : Int32) by decide) ?_
  refine xr_istore [some (xv_r 26), some (xv_l a1), none, some (xv_i a2), some (xv_i a3), some (xv_l (0 : Int64)), none, some (xv_i (0 : Int32)), none, none] (in_59 rfl) (nl_59 rfl) rfl ?_
  refine gm_rowAfter_l6_ok n d (fun x785 m786 h => ?_) F (0 : Int64) (0 : Int32) m h
  refine xr_lload (in_59 rfl) rfl ?_
  obtain ⟨rfl, rfl⟩ := Prod.mk.inj (Option.some.inj h)
  exact xr_lret (kd_59) (in_59 rfl) (Nat.le_refl _) (Nat.le_refl _) ⟨rfl, rfl⟩
def gm_positionOf_l2 (F : Nat) (a793 : Int64) (k : xm_S → Option (Int32 × xm_S)) : Nat → Int32 → xm_S → Option (Int32 × xm_S)
  | 0, _, _ => none
  | fu + 1, a794, m792 => if (m792.1 26 2) ≤ a794 then k m792 else xg_n a794 100 (if (lg_cmp (m792.2 27 a794.toNatClampNeg) a793) = 0 then some (a794, m792) else gm_positionOf_l2 F a793 k fu (a794 + (1 : Int32)) m792)
theorem gm_positionOf_l2_ok {xt : Nat → Nat × (Nat → Int32)} (n d : Nat) {F : Nat} {a793 : Int64} {k : xm_S → Option (Int32 × xm_S)} {r : Int32} {m' : xm_S} 
    (hk : ∀ (m : xm_S), k m = some (r, m') → xm_Run pg xt d 61 0 0 (xQ_i (sh n) r m') 29 [some (xv_r 26), some (xv_l a793), none, none] [] (xq_2 (sh n) m) 0 0) :
    ∀ (fu : Nat) (a794 : Int32) (m792 : xm_S), gm_positionOf_l2 F a793 k fu a794 m792 = some (r, m') → xm_Run pg xt d 61 0 0 (xQ_i (sh n) r m') 2 [some (xv_r 26), some (xv_l a793), none, some (xv_i a794)] [] (xq_2 (sh n) m792) 0 0 := by
  intro fu
  induction fu with
  | zero => intro a794 m792 h; cases h
  | succ fu ih =>
    intro a794 m792 h
    rw [gm_positionOf_l2] at h
    refine xr_iload_n (in_61 rfl) rfl ?_
    refine xr_aload_n (in_61 rfl) rfl ?_
    refine xq_geti (in_61 rfl) (fo_61 rfl) (sh_26 n) rfl ?_
    by_cases c795 : (m792.1 26 2) ≤ a794
    · replace h := (if_pos c795).symm.trans h
      refine xr_ict 29 (in_61 rfl) rfl c795 ?_
      refine xr_forget (loc' := [some (xv_r 26), some (xv_l a793), none, none]) (xl_s (xl_s (xl_o (xl_o xl_n)))) ?_
      exact hk m792 h
    · replace h := (if_neg c795).symm.trans h
      refine xr_icf 29 (in_61 rfl) rfl c795 ?_
      refine xr_aload_n (in_61 rfl) rfl ?_
      refine xq_getr (in_61 rfl) (fo_61 rfl) (sh_26 n) rfl ?_
      refine xr_iload_n (in_61 rfl) rfl ?_
      obtain ⟨o796, h⟩ := xg_e h
      refine xq_lald (in_61 rfl) (sh_27 n) o796 ?_
      refine xr_lload_n (in_61 rfl) rfl ?_
      refine xr_lcmp (in_61 rfl) ?_
      by_cases c797 : (lg_cmp (m792.2 27 a794.toNatClampNeg) a793) = 0
      · replace h := (if_pos c797).symm.trans h
        refine xr_iff 23 (in_61 rfl) rfl (fun q => q c797) ?_
        refine xr_iload_n (in_61 rfl) rfl ?_
        obtain ⟨rfl, rfl⟩ := Prod.mk.inj (Option.some.inj h)
        exact xr_iret (kd_61) (in_61 rfl) (Nat.le_refl _) (Nat.le_refl _) ⟨rfl, rfl⟩
      · replace h := (if_neg c797).symm.trans h
        refine xr_ift 23 (in_61 rfl) rfl c797 ?_
        refine xr_iinc (a794 + (1 : Int32)) [some (xv_r 26), some (xv_l a793), none, some (xv_i (a794 + (1 : Int32)))] (in_61 rfl) rfl (xi_1 _) (nl_61 rfl) rfl ?_
        refine xr_goto 2 (in_61 rfl) rfl ?_
        exact ih (a794 + (1 : Int32)) m792 h
def gm_positionOf (F : Nat) (a1 : Int64) (m : xm_S) : Option (Int32 × xm_S) := gm_positionOf_l2 F a1 (fun (m798 : xm_S) => if (m798.1 26 2) < (100 : Int32) then xg_n (m798.1 26 2) 100 (xs_m (xw_l m798 27 (m798.1 26 2).toNatClampNeg a1) fun m801 => xs_m (xw_i m801 26 2 ((m801.1 26 2) + (1 : Int32))) fun m803 => some ((m803.1 26 2) - (1 : Int32), m803)) else some ((-2 : Int32), m798)) F (0 : Int32) m
theorem gm_positionOf_ok {xt : Nat → Nat × (Nat → Int32)} (n d : Nat) {F : Nat} {a1 : Int64} {m m' : xm_S} {r : Int32} (h : gm_positionOf F a1 m = some (r, m')) : xm_Run pg xt d 61 0 0 (xQ_i (sh n) r m') 0 [some (xv_r 26), some (xv_l a1), none, none] [] (xq_2 (sh n) m) 0 0 := by
  unfold gm_positionOf at h
  refine xr_iconst_ _ (in_61 rfl) (show _ = (0 : Int32) by decide) ?_
  refine xr_istore_n [some (xv_r 26), some (xv_l a1), none, some (xv_i (0 : Int32))] (in_61 rfl) (nl_61 rfl) rfl ?_
  refine gm_positionOf_l2_ok n d (fun m798 h => ?_) F (0 : Int32) m h
  refine xr_aload_n (in_61 rfl) rfl ?_
  refine xq_geti (in_61 rfl) (fo_61 rfl) (sh_26 n) rfl ?_
  refine xr_bipush_ _ (in_61 rfl) (show _ = (100 : Int32) by decide) ?_
  by_cases c799 : (m798.1 26 2) < (100 : Int32)
  · replace h := (if_pos c799).symm.trans h
    refine xr_ict 41 (in_61 rfl) rfl c799 ?_
    refine xr_aload_n (in_61 rfl) rfl ?_
    refine xq_getr (in_61 rfl) (fo_61 rfl) (sh_26 n) rfl ?_
    refine xr_aload_n (in_61 rfl) rfl ?_
    refine xq_geti (in_61 rfl) (fo_61 rfl) (sh_26 n) rfl ?_
    refine xr_lload_n (in_61 rfl) rfl ?_
    obtain ⟨o800, h⟩ := xg_e h
    refine xq_last (in_61 rfl) (sh_27 n) o800 ?_
    obtain ⟨m801, e802, h⟩ := xs_e h
    rw [← e802]
    clear e802
    refine xr_aload_n (in_61 rfl) rfl ?_
    refine xr_dup (in_61 rfl) rfl ?_
    refine xq_geti (in_61 rfl) (fo_61 rfl) (sh_26 n) rfl ?_
    refine xr_iconst_ _ (in_61 rfl) (show _ = (1 : Int32) by decide) ?_
    refine xr_iadd (in_61 rfl) ?_
    refine xq_put (in_61 rfl) (fo_61 rfl) (sh_26 n) rfl (Or.inl rfl) ?_
    obtain ⟨m803, e804, h⟩ := xs_e h
    rw [← e804]
    clear e804
    refine xr_aload_n (in_61 rfl) rfl ?_
    refine xq_geti (in_61 rfl) (fo_61 rfl) (sh_26 n) rfl ?_
    refine xr_iconst_ _ (in_61 rfl) (show _ = (1 : Int32) by decide) ?_
    refine xr_isub (in_61 rfl) ?_
    obtain ⟨rfl, rfl⟩ := Prod.mk.inj (Option.some.inj h)
    exact xr_iret (kd_61) (in_61 rfl) (Nat.le_refl _) (Nat.le_refl _) ⟨rfl, rfl⟩
  · replace h := (if_neg c799).symm.trans h
    refine xr_icf 41 (in_61 rfl) rfl c799 ?_
    refine xr_bipush_ _ (in_61 rfl) (show _ = (-2 : Int32) by decide) ?_
    obtain ⟨rfl, rfl⟩ := Prod.mk.inj (Option.some.inj h)
    exact xr_iret (kd_61) (in_61 rfl) (Nat.le_refl _) (Nat.le_refl _) ⟨rfl, rfl⟩
