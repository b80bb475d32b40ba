/-! Methods as functions, and that they run so (written by program). -/
def mm_after_l21 (F : Nat) (a1985 : Int64) (a1986 : Int32) (a1987 : Int32) (a1988 : Int64) (a1989 : Int32) (k : Int32 → xm_S → Option (Int64 × xm_S)) : Nat → Int32 → Int32 → xm_S → Option (Int64 × xm_S)
  | 0, _, _, _ => none
  | fu + 1, a1990, a1991, m1984 => if (m1984.1 35 11) ≤ a1991 then k a1990 m1984 else xj_j (fun (x1996 : Int32) => xj_j (fun (x2003 : Int32) => if x2003 ≤ a1990 then mm_after_l21 F a1985 a1986 a1987 a1988 a1989 k fu a1990 (a1991 + (1 : Int32)) m1984 else mm_after_l21 F a1985 a1986 a1987 a1988 a1989 k fu x2003 (a1991 + (1 : Int32)) m1984) fun j2004 => if x1996 = 0 then j2004 (-1 : Int32) else xg_n (((16 : Int32) * a1991) + a1986) 272 (j2004 ((mm_counter a1985 a1991) + (((m1984.1 48 (((16 : Int32) * a1991) + a1986).toNatClampNeg) >>> (a1989 &&& 31)) &&& (1 : Int32))))) fun j1997 => xj_j (fun (u2013 : Unit) => j1997 (0 : Int32)) fun j2014 => if (mm_counter a1985 a1991) < 0 then j2014 () else xg_n (((16 : Int32) * a1991) + a1986) 272 (if (((m1984.1 47 (((16 : Int32) * a1991) + a1986).toNatClampNeg) >>> (a1989 &&& 31)) &&& (1 : Int32)) = (1 : Int32) then j1997 (1 : Int32) else j2014 ())
theorem mm_after_l21_ok {xt : Nat → Nat × (Nat → Int32)} (n d : Nat) {F : Nat} {a1985 : Int64} {a1986 : Int32} {a1987 : Int32} {a1988 : Int64} {a1989 : Int32} {k : Int32 → xm_S → Option (Int64 × xm_S)} {r : Int64} {m' : xm_S} 
    (hk : ∀ (z8 : Int32) (m : xm_S), k z8 m = some (r, m') → xm_Run pg xt (d + 1) 107 0 0 (xQ_l (sh n) r m') 123 [some (xv_r 35), some (xv_l a1985), none, some (xv_i a1986), some (xv_i a1987), some (xv_l a1988), none, some (xv_i a1989), some (xv_i z8), none, none, none, none, none] [] (xq_2 (sh n) m) 0 0) :
    ∀ (fu : Nat) (a1990 : Int32) (a1991 : Int32) (m1984 : xm_S), mm_after_l21 F a1985 a1986 a1987 a1988 a1989 k fu a1990 a1991 m1984 = some (r, m') → xm_Run pg xt (d + 1) 107 0 0 (xQ_l (sh n) r m') 21 [some (xv_r 35), some (xv_l a1985), none, some (xv_i a1986), some (xv_i a1987), some (xv_l a1988), none, some (xv_i a1989), some (xv_i a1990), some (xv_i a1991), none, none, none, none] [] (xq_2 (sh n) m1984) 0 0 := by
  intro fu
  induction fu with
  | zero => intro a1990 a1991 m1984 h; cases h
  | succ fu ih =>
    intro a1990 a1991 m1984 h
    rw [mm_after_l21] at h
    refine xr_iload (in_107 rfl) rfl ?_
    refine xr_aload_n (in_107 rfl) rfl ?_
    refine xq_geti (in_107 rfl) (fo_107 rfl) (sh_35 n) rfl ?_
    by_cases c1992 : (m1984.1 35 11) ≤ a1991
    · replace h := (if_pos c1992).symm.trans h
      refine xr_ict 123 (in_107 rfl) rfl c1992 ?_
      refine xr_forget (loc' := [some (xv_r 35), some (xv_l a1985), none, some (xv_i a1986), some (xv_i a1987), some (xv_l a1988), none, some (xv_i a1989), some (xv_i a1990), none, none, none, none, none]) (xl_s (xl_s (xl_o (xl_s (xl_s (xl_s (xl_o (xl_s (xl_s (xl_o (xl_o (xl_o (xl_o (xl_o xl_n)))))))))))))) ?_
      exact hk a1990 m1984 h
    · replace h := (if_neg c1992).symm.trans h
      refine xr_icf 123 (in_107 rfl) rfl c1992 ?_
      refine xr_lload_n (in_107 rfl) rfl ?_
      refine xr_iload (in_107 rfl) rfl ?_
      refine xq_calla [xv_l a1985, xv_i a1991] [] [some (xv_l a1985), none, some (xv_i a1991)] (xk_S (in_107 rfl)) (cl_107 rfl) rfl rfl rfl rfl (mm_counter_ok n d rfl) ?_
      refine xr_istore [some (xv_r 35), some (xv_l a1985), none, some (xv_i a1986), some (xv_i a1987), some (xv_l a1988), none, some (xv_i a1989), some (xv_i a1990), some (xv_i a1991), some (xv_i (mm_counter a1985 a1991)), none, none, none] (in_107 rfl) (nl_107 rfl) rfl ?_
      refine xr_bipush_ _ (in_107 rfl) (show _ = (16 : Int32) by decide) ?_
      refine xr_iload (in_107 rfl) rfl ?_
      refine xr_imul (in_107 rfl) ?_
      refine xr_iload_n (in_107 rfl) rfl ?_
      refine xr_iadd (in_107 rfl) ?_
      refine xr_istore [some (xv_r 35), some (xv_l a1985), none, some (xv_i a1986), some (xv_i a1987), some (xv_l a1988), none, some (xv_i a1989), some (xv_i a1990), some (xv_i a1991), some (xv_i (mm_counter a1985 a1991)), some (xv_i (((16 : Int32) * a1991) + a1986)), none, none] (in_107 rfl) (nl_107 rfl) rfl ?_
      refine xr_iload (in_107 rfl) rfl ?_
      obtain ⟨j1997, e1998, h⟩ := xj_e h
      have q1999 : ∀ (x1996 : Int32), j1997 x1996 = some (r, m') → xm_Run pg xt (d + 1) 107 0 0 (xQ_l (sh n) r m') 73 [some (xv_r 35), some (xv_l a1985), none, some (xv_i a1986), some (xv_i a1987), some (xv_l a1988), none, some (xv_i a1989), some (xv_i a1990), some (xv_i a1991), some (xv_i (mm_counter a1985 a1991)), some (xv_i (((16 : Int32) * a1991) + a1986)), none, none] [xv_i x1996] (xq_2 (sh n) m1984) 0 0 := by
        intro x1996 h
        rw [e1998] at h
        refine xr_istore [some (xv_r 35), some (xv_l a1985), none, some (xv_i a1986), some (xv_i a1987), some (xv_l a1988), none, some (xv_i a1989), some (xv_i a1990), some (xv_i a1991), some (xv_i (mm_counter a1985 a1991)), some (xv_i (((16 : Int32) * a1991) + a1986)), some (xv_i x1996), none] (in_107 rfl) (nl_107 rfl) rfl ?_
        refine xr_iload (in_107 rfl) rfl ?_
        obtain ⟨j2004, e2005, h⟩ := xj_e h
        have q2006 : ∀ (x2003 : Int32), j2004 x2003 = some (r, m') → xm_Run pg xt (d + 1) 107 0 0 (xQ_l (sh n) r m') 99 [some (xv_r 35), some (xv_l a1985), none, some (xv_i a1986), some (xv_i a1987), some (xv_l a1988), none, some (xv_i a1989), some (xv_i a1990), some (xv_i a1991), none, none, none, none] [xv_i x2003] (xq_2 (sh n) m1984) 0 0 := by
          intro x2003 h
          rw [e2005] at h
          refine xr_istore [some (xv_r 35), some (xv_l a1985), none, some (xv_i a1986), some (xv_i a1987), some (xv_l a1988), none, some (xv_i a1989), some (xv_i a1990), some (xv_i a1991), none, none, none, some (xv_i x2003)] (in_107 rfl) (nl_107 rfl) rfl ?_
          refine xr_iload (in_107 rfl) rfl ?_
          refine xr_iload (in_107 rfl) rfl ?_
          by_cases c2007 : x2003 ≤ a1990
          · replace h := (if_pos c2007).symm.trans h
            refine xr_ict 113 (in_107 rfl) rfl c2007 ?_
            refine xr_iload (in_107 rfl) rfl ?_
            refine xr_istore [some (xv_r 35), some (xv_l a1985), none, some (xv_i a1986), some (xv_i a1987), some (xv_l a1988), none, some (xv_i a1989), some (xv_i a1990), some (xv_i a1991), none, none, none, some (xv_i x2003)] (in_107 rfl) (nl_107 rfl) rfl ?_
            refine xr_iinc (a1991 + (1 : Int32)) [some (xv_r 35), some (xv_l a1985), none, some (xv_i a1986), some (xv_i a1987), some (xv_l a1988), none, some (xv_i a1989), some (xv_i a1990), some (xv_i (a1991 + (1 : Int32))), none, none, none, some (xv_i x2003)] (in_107 rfl) rfl (xi_1 _) (nl_107 rfl) rfl ?_
            refine xr_goto 21 (in_107 rfl) rfl ?_
            refine xr_forget (loc' := [some (xv_r 35), some (xv_l a1985), none, some (xv_i a1986), some (xv_i a1987), some (xv_l a1988), none, some (xv_i a1989), some (xv_i a1990), some (xv_i (a1991 + (1 : Int32))), none, none, none, none]) (xl_s (xl_s (xl_o (xl_s (xl_s (xl_s (xl_o (xl_s (xl_s (xl_s (xl_o (xl_o (xl_o (xl_o xl_n)))))))))))))) ?_
            exact ih a1990 (a1991 + (1 : Int32)) m1984 h
          · replace h := (if_neg c2007).symm.trans h
            refine xr_icf 113 (in_107 rfl) rfl c2007 ?_
            refine xr_iload (in_107 rfl) rfl ?_
            refine xr_goto 115 (in_107 rfl) rfl ?_
            refine xr_istore [some (xv_r 35), some (xv_l a1985), none, some (xv_i a1986), some (xv_i a1987), some (xv_l a1988), none, some (xv_i a1989), some (xv_i x2003), some (xv_i a1991), none, none, none, some (xv_i x2003)] (in_107 rfl) (nl_107 rfl) rfl ?_
            refine xr_iinc (a1991 + (1 : Int32)) [some (xv_r 35), some (xv_l a1985), none, some (xv_i a1986), some (xv_i a1987), some (xv_l a1988), none, some (xv_i a1989), some (xv_i x2003), some (xv_i (a1991 + (1 : Int32))), none, none, none, some (xv_i x2003)] (in_107 rfl) rfl (xi_1 _) (nl_107 rfl) rfl ?_
            refine xr_goto 21 (in_107 rfl) rfl ?_
            refine xr_forget (loc' := [some (xv_r 35), some (xv_l a1985), none, some (xv_i a1986), some (xv_i a1987), some (xv_l a1988), none, some (xv_i a1989), some (xv_i x2003), some (xv_i (a1991 + (1 : Int32))), none, none, none, none]) (xl_s (xl_s (xl_o (xl_s (xl_s (xl_s (xl_o (xl_s (xl_s (xl_s (xl_o (xl_o (xl_o (xl_o xl_n)))))))))))))) ?_
            exact ih x2003 (a1991 + (1 : Int32)) m1984 h
        clear e2005
        by_cases c2008 : x1996 = 0
        · replace h := (if_pos c2008).symm.trans h
          refine xr_ift 98 (in_107 rfl) rfl c2008 ?_
          refine xr_iconst_ _ (in_107 rfl) (show _ = (-1 : Int32) by decide) ?_
          refine xr_forget (loc' := [some (xv_r 35), some (xv_l a1985), none, some (xv_i a1986), some (xv_i a1987), some (xv_l a1988), none, some (xv_i a1989), some (xv_i a1990), some (xv_i a1991), none, none, none, none]) (xl_s (xl_s (xl_o (xl_s (xl_s (xl_s (xl_o (xl_s (xl_s (xl_s (xl_o (xl_o (xl_o (xl_o xl_n)))))))))))))) ?_
          exact q2006 (-1 : Int32) h
        · replace h := (if_neg c2008).symm.trans h
          refine xr_iff 98 (in_107 rfl) rfl c2008 ?_
          refine xr_iload (in_107 rfl) rfl ?_
          refine xr_aload_n (in_107 rfl) rfl ?_
          refine xq_getr (in_107 rfl) (fo_107 rfl) (sh_35 n) rfl ?_
          refine xr_iload (in_107 rfl) rfl ?_
          obtain ⟨o2009, h⟩ := xg_e h
          refine xq_iald (in_107 rfl) (sh_48 n) o2009 ?_
          refine xr_iload (in_107 rfl) rfl ?_
          refine xr_ishr (in_107 rfl) ?_
          refine xr_iconst_ _ (in_107 rfl) (show _ = (1 : Int32) by decide) ?_
          refine xr_iand (in_107 rfl) ?_
          refine xr_iadd (in_107 rfl) ?_
          refine xr_goto 99 (in_107 rfl) rfl ?_
          refine xr_forget (loc' := [some (xv_r 35), some (xv_l a1985), none, some (xv_i a1986), some (xv_i a1987), some (xv_l a1988), none, some (xv_i a1989), some (xv_i a1990), some (xv_i a1991), none, none, none, none]) (xl_s (xl_s (xl_o (xl_s (xl_s (xl_s (xl_o (xl_s (xl_s (xl_s (xl_o (xl_o (xl_o (xl_o xl_n)))))))))))))) ?_
          exact q2006 ((mm_counter a1985 a1991) + (((m1984.1 48 (((16 : Int32) * a1991) + a1986).toNatClampNeg) >>> (a1989 &&& 31)) &&& (1 : Int32))) h
      clear e1998
      obtain ⟨j2014, e2015, h⟩ := xj_e h
      have q2016 : ∀ (u2013 : Unit), j2014 u2013 = some (r, m') → xm_Run pg xt (d + 1) 107 0 0 (xQ_l (sh n) r m') 72 [some (xv_r 35), some (xv_l a1985), none, some (xv_i a1986), some (xv_i a1987), some (xv_l a1988), none, some (xv_i a1989), some (xv_i a1990), some (xv_i a1991), some (xv_i (mm_counter a1985 a1991)), some (xv_i (((16 : Int32) * a1991) + a1986)), none, none] [] (xq_2 (sh n) m1984) 0 0 := by
        intro u2013 h
        rw [e2015] at h
        refine xr_iconst_ _ (in_107 rfl) (show _ = (0 : Int32) by decide) ?_
        exact q1999 (0 : Int32) h
      clear e2015
      by_cases c2017 : (mm_counter a1985 a1991) < 0
      · replace h := (if_pos c2017).symm.trans h
        refine xr_ift 72 (in_107 rfl) rfl c2017 ?_
        exact q2016 () h
      · replace h := (if_neg c2017).symm.trans h
        refine xr_iff 72 (in_107 rfl) rfl c2017 ?_
        refine xr_aload_n (in_107 rfl) rfl ?_
        refine xq_getr (in_107 rfl) (fo_107 rfl) (sh_35 n) rfl ?_
        refine xr_iload (in_107 rfl) rfl ?_
        obtain ⟨o2018, h⟩ := xg_e h
        refine xq_iald (in_107 rfl) (sh_47 n) o2018 ?_
        refine xr_iload (in_107 rfl) rfl ?_
        refine xr_ishr (in_107 rfl) ?_
        refine xr_iconst_ _ (in_107 rfl) (show _ = (1 : Int32) by decide) ?_
        refine xr_iand (in_107 rfl) ?_
        refine xr_iconst_ _ (in_107 rfl) (show _ = (1 : Int32) by decide) ?_
        by_cases c2019 : (((m1984.1 47 (((16 : Int32) * a1991) + a1986).toNatClampNeg) >>> (a1989 &&& 31)) &&& (1 : Int32)) = (1 : Int32)
        · replace h := (if_pos c2019).symm.trans h
          refine xr_icf 72 (in_107 rfl) rfl (fun q => q c2019) ?_
          refine xr_iconst_ _ (in_107 rfl) (show _ = (1 : Int32) by decide) ?_
          refine xr_goto 73 (in_107 rfl) rfl ?_
          exact q1999 (1 : Int32) h
        · replace h := (if_neg c2019).symm.trans h
          refine xr_ict 72 (in_107 rfl) rfl c2019 ?_
          exact q2016 () h
def mm_after_l6 (F : Nat) (a1978 : Int64) (a1979 : Int32) (a1980 : Int32) (k : Int64 → xm_S → Option (Int64 × xm_S)) : Nat → Int64 → Int32 → xm_S → Option (Int64 × xm_S)
  | 0, _, _, _ => none
  | fu + 1, a1981, a1982, m1977 => if (m1977.1 35 11) ≤ a1982 then k a1981 m1977 else mm_after_l21 F a1978 a1979 a1980 a1981 a1982 (fun (x2020 : Int32) (m2021 : xm_S) => if x2020 ≤ a1980 then mm_after_l6 F a1978 a1979 a1980 k fu (a1981 ||| (((x2020 + (1 : Int32)).toInt64) <<< (((3 : Int32) * a1982).toInt64 &&& 63))) (a1982 + (1 : Int32)) m2021 else some ((-1 : Int64), m2021)) F (-1 : Int32) (0 : Int32) m1977
theorem mm_after_l6_ok {xt : Nat → Nat × (Nat → Int32)} (n d : Nat) {F : Nat} {a1978 : Int64} {a1979 : Int32} {a1980 : Int32} {k : Int64 → xm_S → Option (Int64 × xm_S)} {r : Int64} {m' : xm_S} 
    (hk : ∀ (z5 : Int64) (m : xm_S), k z5 m = some (r, m') → xm_Run pg xt (d + 1) 107 0 0 (xQ_l (sh n) r m') 155 [none, none, none, none, none, some (xv_l z5), none, none, none, none, none, none, none, none] [] (xq_2 (sh n) m) 0 0) :
    ∀ (fu : Nat) (a1981 : Int64) (a1982 : Int32) (m1977 : xm_S), mm_after_l6 F a1978 a1979 a1980 k fu a1981 a1982 m1977 = some (r, m') → xm_Run pg xt (d + 1) 107 0 0 (xQ_l (sh n) r m') 6 [some (xv_r 35), some (xv_l a1978), none, some (xv_i a1979), some (xv_i a1980), some (xv_l a1981), none, some (xv_i a1982), none, none, none, none, none, none] [] (xq_2 (sh n) m1977) 0 0 := by
  intro fu
  induction fu with
  | zero => intro a1981 a1982 m1977 h; cases h
  | succ fu ih =>
    intro a1981 a1982 m1977 h
    rw [mm_after_l6] at h
    refine xr_iload (in_107 rfl) rfl ?_
    refine xr_aload_n (in_107 rfl) rfl ?_
    refine xq_geti (in_107 rfl) (fo_107 rfl) (sh_35 n) rfl ?_
    by_cases c1983 : (m1977.1 35 11) ≤ a1982
    · replace h := (if_pos c1983).symm.trans h
      refine xr_ict 155 (in_107 rfl) rfl c1983 ?_
      refine xr_forget (loc' := [none, none, none, none, none, some (xv_l a1981), none, none, none, none, none, none, none, none]) (xl_o (xl_o (xl_o (xl_o (xl_o (xl_s (xl_o (xl_o (xl_o (xl_o (xl_o (xl_o (xl_o (xl_o xl_n)))))))))))))) ?_
      exact hk a1981 m1977 h
    · replace h := (if_neg c1983).symm.trans h
      refine xr_icf 155 (in_107 rfl) rfl c1983 ?_
      refine xr_iconst_ _ (in_107 rfl) (show _ = (-1 : Int32) by decide) ?_
      refine xr_istore [some (xv_r 35), some (xv_l a1978), none, some (xv_i a1979), some (xv_i a1980), some (xv_l a1981), none, some (xv_i a1982), some (xv_i (-1 : Int32)), none, none, none, none, none] (in_107 rfl) (nl_107 rfl) rfl ?_
      refine xr_iconst_ _ (in_107 rfl) (show _ = (0 : Int32) by decide) ?_
      refine xr_istore [some (xv_r 35), some (xv_l a1978), none, some (xv_i a1979), some (xv_i a1980), some (xv_l a1981), none, some (xv_i a1982), some (xv_i (-1 : Int32)), some (xv_i (0 : Int32)), none, none, none, none] (in_107 rfl) (nl_107 rfl) rfl ?_
      refine mm_after_l21_ok n d (fun x2020 m2021 h => ?_) F (-1 : Int32) (0 : Int32) m1977 h
      refine xr_iload (in_107 rfl) rfl ?_
      refine xr_iload (in_107 rfl) rfl ?_
      by_cases c2022 : x2020 ≤ a1980
      · replace h := (if_pos c2022).symm.trans h
        refine xr_ict 134 (in_107 rfl) rfl c2022 ?_
        refine xr_lload (in_107 rfl) rfl ?_
        refine xr_iload (in_107 rfl) rfl ?_
        refine xr_iconst_ _ (in_107 rfl) (show _ = (1 : Int32) by decide) ?_
        refine xr_iadd (in_107 rfl) ?_
        refine xr_i2l (in_107 rfl) ?_
        refine xr_iconst_ _ (in_107 rfl) (show _ = (3 : Int32) by decide) ?_
        refine xr_iload (in_107 rfl) rfl ?_
        refine xr_imul (in_107 rfl) ?_
        refine xr_lshl (in_107 rfl) ?_
        refine xr_lor (in_107 rfl) ?_
        refine xr_lstore [some (xv_r 35), some (xv_l a1978), none, some (xv_i a1979), some (xv_i a1980), some (xv_l (a1981 ||| (((x2020 + (1 : Int32)).toInt64) <<< (((3 : Int32) * a1982).toInt64 &&& 63)))), none, some (xv_i a1982), some (xv_i x2020), none, none, none, none, none] (in_107 rfl) (nl_107 rfl) rfl ?_
        refine xr_iinc (a1982 + (1 : Int32)) [some (xv_r 35), some (xv_l a1978), none, some (xv_i a1979), some (xv_i a1980), some (xv_l (a1981 ||| (((x2020 + (1 : Int32)).toInt64) <<< (((3 : Int32) * a1982).toInt64 &&& 63)))), none, some (xv_i (a1982 + (1 : Int32))), some (xv_i x2020), none, none, none, none, none] (in_107 rfl) rfl (xi_1 _) (nl_107 rfl) rfl ?_
        refine xr_goto 6 (in_107 rfl) rfl ?_
        refine xr_forget (loc' := [some (xv_r 35), some (xv_l a1978), none, some (xv_i a1979), some (xv_i a1980), some (xv_l (a1981 ||| (((x2020 + (1 : Int32)).toInt64) <<< (((3 : Int32) * a1982).toInt64 &&& 63)))), none, some (xv_i (a1982 + (1 : Int32))), none, none, none, none, none, none]) (xl_s (xl_s (xl_o (xl_s (xl_s (xl_s (xl_o (xl_s (xl_o (xl_o (xl_o (xl_o (xl_o (xl_o xl_n)))))))))))))) ?_
        exact ih (a1981 ||| (((x2020 + (1 : Int32)).toInt64) <<< (((3 : Int32) * a1982).toInt64 &&& 63))) (a1982 + (1 : Int32)) m2021 h
      · replace h := (if_neg c2022).symm.trans h
        refine xr_icf 134 (in_107 rfl) rfl c2022 ?_
        refine xr_ldc2 (in_107 rfl) (ko_107 rfl) ?_
        obtain ⟨rfl, rfl⟩ := Prod.mk.inj (Option.some.inj h)
        exact xr_lret (kd_107) (in_107 rfl) (Nat.le_refl _) (Nat.le_refl _) ⟨rfl, rfl⟩
def mm_after (F : Nat) (a1 : Int64) (a2 : Int32) (a3 : Int32) (m : xm_S) : Option (Int64 × xm_S) := mm_after_l6 F a1 a2 a3 (fun (x2023 : Int64) (m2024 : xm_S) => some (x2023, m2024)) F (0 : Int64) (0 : Int32) m
theorem mm_after_ok {xt : Nat → Nat × (Nat → Int32)} (n d : Nat) {F : Nat} {a1 : Int64} {a2 : Int32} {a3 : Int32} {m m' : xm_S} {r : Int64} (h : mm_after F a1 a2 a3 m = some (r, m')) : xm_Run pg xt (d + 1) 107 0 0 (xQ_l (sh n) r m') 0 [some (xv_r 35), some (xv_l a1), none, some (xv_i a2), some (xv_i a3), none, none, none, none, none, none, none, none, none] [] (xq_2 (sh n) m) 0 0 := by
  unfold mm_after at h
  refine xr_lconst_ _ (in_107 rfl) (show _ = (0 : Int64) by decide) ?_
  refine xr_lstore [some (xv_r 35), some (xv_l a1), none, some (xv_i a2), some (xv_i a3), some (xv_l (0 : Int64)), none, none, none, none, none, none, none, none] (in_107 rfl) (nl_107 rfl) rfl ?_
  refine xr_iconst_ _ (in_107 rfl) (show _ = (0 : Int32) by decide) ?_
  refine xr_istore [some (xv_r 35), some (xv_l a1), none, some (xv_i a2), some (xv_i a3), some (xv_l (0 : Int64)), none, some (xv_i (0 : Int32)), none, none, none, none, none, none] (in_107 rfl) (nl_107 rfl) rfl ?_
  refine mm_after_l6_ok n d (fun x2023 m2024 h => ?_) F (0 : Int64) (0 : Int32) m h
  refine xr_lload (in_107 rfl) rfl ?_
  obtain ⟨rfl, rfl⟩ := Prod.mk.inj (Option.some.inj h)
  exact xr_lret (kd_107) (in_107 rfl) (Nat.le_refl _) (Nat.le_refl _) ⟨rfl, rfl⟩
def mm_game_l24 (F : Nat) (a1972 : Int32) (a1973 : Int32) (k : xm_S → Option (Int32 × xm_S)) : Nat → Int32 → xm_S → Option (Int32 × xm_S)
  | 0, _, _ => none
  | fu + 1, a1974, m1971 => if (16 : Int32) ≤ a1974 then k m1971 else xg_n a1973 101 (xc_m (mm_after F (m1971.2 50 a1973.toNatClampNeg) a1974 a1972 m1971) fun v2025 m2026 => xj_j (fun (x2035 : Int32) (m2036 : xm_S) => xg_n (((16 : Int32) * a1973) + a1974) 1600 (xs_m (xw_i m2036 51 (((16 : Int32) * a1973) + a1974).toNatClampNeg x2035) fun m2041 => if (m2041.1 35 18) ≤ (100 : Int32) then mm_game_l24 F a1972 a1973 k fu (a1974 + (1 : Int32)) m2041 else some ((0 : Int32), m2041))) fun j2037 => if 0 ≤ (lg_cmp v2025 (0 : Int64)) then xc_m (mm_positionOf F v2025 m2026) fun v2045 m2046 => j2037 v2045 m2046 else j2037 (-1 : Int32) m2026)
theorem mm_game_l24_ok {xt : Nat → Nat × (Nat → Int32)} (n d : Nat) {F : Nat} {a1972 : Int32} {a1973 : Int32} {k : xm_S → Option (Int32 × xm_S)} {r : Int32} {m' : xm_S} 
    (hk : ∀ (m : xm_S), k m = some (r, m') → xm_Run pg xt (d + 2) 105 0 0 (xQ_i (sh n) r m') 92 [some (xv_r 35), some (xv_i a1972), none, some (xv_i a1973), none, none, none] [] (xq_2 (sh n) m) 0 0) :
    ∀ (fu : Nat) (a1974 : Int32) (m1971 : xm_S), mm_game_l24 F a1972 a1973 k fu a1974 m1971 = some (r, m') → xm_Run pg xt (d + 2) 105 0 0 (xQ_i (sh n) r m') 24 [some (xv_r 35), some (xv_i a1972), none, some (xv_i a1973), some (xv_i a1974), none, none] [] (xq_2 (sh n) m1971) 0 0 := by
  intro fu
  induction fu with
  | zero => intro a1974 m1971 h; cases h
  | succ fu ih =>
    intro a1974 m1971 h
    rw [mm_game_l24] at h
    refine xr_iload (in_105 rfl) rfl ?_
    refine xr_bipush_ _ (in_105 rfl) (show _ = (16 : Int32) by decide) ?_
    by_cases c1975 : (16 : Int32) ≤ a1974
    · replace h := (if_pos c1975).symm.trans h
      refine xr_ict 92 (in_105 rfl) rfl c1975 ?_
      refine xr_forget (loc' := [some (xv_r 35), some (xv_i a1972), none, some (xv_i a1973), none, none, none]) (xl_s (xl_s (xl_o (xl_s (xl_o (xl_o (xl_o xl_n))))))) ?_
      exact hk m1971 h
    · replace h := (if_neg c1975).symm.trans h
      refine xr_icf 92 (in_105 rfl) rfl c1975 ?_
      refine xr_aload_n (in_105 rfl) rfl ?_
      refine xr_aload_n (in_105 rfl) rfl ?_
      refine xq_getr (in_105 rfl) (fo_105 rfl) (sh_35 n) rfl ?_
      refine xr_iload_n (in_105 rfl) rfl ?_
      obtain ⟨o1976, h⟩ := xg_e h
      refine xq_lald (in_105 rfl) (sh_50 n) o1976 ?_
      refine xr_iload (in_105 rfl) rfl ?_
      refine xr_iload_n (in_105 rfl) rfl ?_
      obtain ⟨v2025, m2026, e2027, h⟩ := xc_m_e h
      refine xq_calla [xv_r 35, xv_l (m1971.2 50 a1973.toNatClampNeg), xv_i a1974, xv_i a1972] [] [some (xv_r 35), some (xv_l (m1971.2 50 a1973.toNatClampNeg)), none, some (xv_i a1974), some (xv_i a1972), none, none, none, none, none, none, none, none, none] (xk_V (in_105 rfl) (sh_35 n)) (cl_105 rfl) rfl rfl rfl rfl (mm_after_ok n d e2027) ?_
      refine xr_lstore [some (xv_r 35), some (xv_i a1972), none, some (xv_i a1973), some (xv_i a1974), some (xv_l v2025), none] (in_105 rfl) (nl_105 rfl) rfl ?_
      refine xr_aload_n (in_105 rfl) rfl ?_
      refine xq_getr (in_105 rfl) (fo_105 rfl) (sh_35 n) rfl ?_
      refine xr_bipush_ _ (in_105 rfl) (show _ = (16 : Int32) by decide) ?_
      refine xr_iload_n (in_105 rfl) rfl ?_
      refine xr_imul (in_105 rfl) ?_
      refine xr_iload (in_105 rfl) rfl ?_
      refine xr_iadd (in_105 rfl) ?_
      refine xr_lload (in_105 rfl) rfl ?_
      refine xr_lconst_ _ (in_105 rfl) (show _ = (0 : Int64) by decide) ?_
      refine xr_lcmp (in_105 rfl) ?_
      obtain ⟨j2037, e2038, h⟩ := xj_e h
      have q2039 : ∀ (x2035 : Int32) (m2036 : xm_S), j2037 x2035 m2036 = some (r, m') → xm_Run pg xt (d + 2) 105 0 0 (xQ_i (sh n) r m') 74 [some (xv_r 35), some (xv_i a1972), none, some (xv_i a1973), some (xv_i a1974), none, none] [xv_i x2035, xv_i (((16 : Int32) * a1973) + a1974), xv_r 51] (xq_2 (sh n) m2036) 0 0 := by
        intro x2035 m2036 h
        rw [e2038] at h
        obtain ⟨o2040, h⟩ := xg_e h
        refine xq_iast (in_105 rfl) (sh_51 n) o2040 ?_
        obtain ⟨m2041, e2042, h⟩ := xs_e h
        rw [← e2042]
        clear e2042
        refine xr_aload_n (in_105 rfl) rfl ?_
        refine xq_geti (in_105 rfl) (fo_105 rfl) (sh_35 n) rfl ?_
        refine xr_bipush_ _ (in_105 rfl) (show _ = (100 : Int32) by decide) ?_
        by_cases c2043 : (m2041.1 35 18) ≤ (100 : Int32)
        · replace h := (if_pos c2043).symm.trans h
          refine xr_ict 86 (in_105 rfl) rfl c2043 ?_
          refine xr_iinc (a1974 + (1 : Int32)) [some (xv_r 35), some (xv_i a1972), none, some (xv_i a1973), some (xv_i (a1974 + (1 : Int32))), none, none] (in_105 rfl) rfl (xi_1 _) (nl_105 rfl) rfl ?_
          refine xr_goto 24 (in_105 rfl) rfl ?_
          exact ih (a1974 + (1 : Int32)) m2041 h
        · replace h := (if_neg c2043).symm.trans h
          refine xr_icf 86 (in_105 rfl) rfl c2043 ?_
          refine xr_iconst_ _ (in_105 rfl) (show _ = (0 : Int32) by decide) ?_
          obtain ⟨rfl, rfl⟩ := Prod.mk.inj (Option.some.inj h)
          exact xr_zret (kd_105) (in_105 rfl) (by decide) (Nat.le_refl _) (Nat.le_refl _) ⟨rfl, rfl⟩
      clear e2038
      by_cases c2044 : 0 ≤ (lg_cmp v2025 (0 : Int64))
      · replace h := (if_pos c2044).symm.trans h
        refine xr_ift 68 (in_105 rfl) rfl c2044 ?_
        refine xr_aload_n (in_105 rfl) rfl ?_
        refine xr_lload (in_105 rfl) rfl ?_
        obtain ⟨v2045, m2046, e2047, h⟩ := xc_m_e h
        refine xq_calla [xv_r 35, xv_l v2025] [xv_i (((16 : Int32) * a1973) + a1974), xv_r 51] [some (xv_r 35), some (xv_l v2025), none, none] (xk_V (in_105 rfl) (sh_35 n)) (cl_105 rfl) rfl rfl rfl rfl (mm_positionOf_ok n (d + 1) e2047) ?_
        refine xr_forget (loc' := [some (xv_r 35), some (xv_i a1972), none, some (xv_i a1973), some (xv_i a1974), none, none]) (xl_s (xl_s (xl_o (xl_s (xl_s (xl_o (xl_o xl_n))))))) ?_
        exact q2039 v2045 m2046 h
      · replace h := (if_neg c2044).symm.trans h
        refine xr_iff 68 (in_105 rfl) rfl c2044 ?_
        refine xr_iconst_ _ (in_105 rfl) (show _ = (-1 : Int32) by decide) ?_
        refine xr_goto 74 (in_105 rfl) rfl ?_
        refine xr_forget (loc' := [some (xv_r 35), some (xv_i a1972), none, some (xv_i a1973), some (xv_i a1974), none, none]) (xl_s (xl_s (xl_o (xl_s (xl_s (xl_o (xl_o xl_n))))))) ?_
        exact q2039 (-1 : Int32) m2026 h
def mm_game_l13 (F : Nat) (a1968 : Int32) (k : xm_S → Option (Int32 × xm_S)) : Nat → Int32 → xm_S → Option (Int32 × xm_S)
  | 0, _, _ => none
  | fu + 1, a1969, m1967 => if (m1967.1 35 18) ≤ a1969 then k m1967 else mm_game_l24 F a1968 a1969 (fun (m2049 : xm_S) => mm_game_l13 F a1968 k fu (a1969 + (1 : Int32)) m2049) F (0 : Int32) m1967
theorem mm_game_l13_ok {xt : Nat → Nat × (Nat → Int32)} (n d : Nat) {F : Nat} {a1968 : Int32} {k : xm_S → Option (Int32 × xm_S)} {r : Int32} {m' : xm_S} 
    (hk : ∀ (m : xm_S), k m = some (r, m') → xm_Run pg xt (d + 2) 105 0 0 (xQ_i (sh n) r m') 98 [none, none, none, none, none, none, none] [] (xq_2 (sh n) m) 0 0) :
    ∀ (fu : Nat) (a1969 : Int32) (m1967 : xm_S), mm_game_l13 F a1968 k fu a1969 m1967 = some (r, m') → xm_Run pg xt (d + 2) 105 0 0 (xQ_i (sh n) r m') 13 [some (xv_r 35), some (xv_i a1968), none, some (xv_i a1969), none, none, none] [] (xq_2 (sh n) m1967) 0 0 := by
  intro fu
  induction fu with
  | zero => intro a1969 m1967 h; cases h
  | succ fu ih =>
    intro a1969 m1967 h
    rw [mm_game_l13] at h
    refine xr_iload_n (in_105 rfl) rfl ?_
    refine xr_aload_n (in_105 rfl) rfl ?_
    refine xq_geti (in_105 rfl) (fo_105 rfl) (sh_35 n) rfl ?_
    by_cases c1970 : (m1967.1 35 18) ≤ a1969
    · replace h := (if_pos c1970).symm.trans h
      refine xr_ict 98 (in_105 rfl) rfl c1970 ?_
      refine xr_forget (loc' := [none, none, none, none, none, none, none]) (xl_o (xl_o (xl_o (xl_o (xl_o (xl_o (xl_o xl_n))))))) ?_
      exact hk m1967 h
    · replace h := (if_neg c1970).symm.trans h
      refine xr_icf 98 (in_105 rfl) rfl c1970 ?_
      refine xr_iconst_ _ (in_105 rfl) (show _ = (0 : Int32) by decide) ?_
      refine xr_istore [some (xv_r 35), some (xv_i a1968), none, some (xv_i a1969), some (xv_i (0 : Int32)), none, none] (in_105 rfl) (nl_105 rfl) rfl ?_
      refine mm_game_l24_ok n d (fun m2049 h => ?_) F (0 : Int32) m1967 h
      refine xr_iinc (a1969 + (1 : Int32)) [some (xv_r 35), some (xv_i a1968), none, some (xv_i (a1969 + (1 : Int32))), none, none, none] (in_105 rfl) rfl (xi_1 _) (nl_105 rfl) rfl ?_
      refine xr_goto 13 (in_105 rfl) rfl ?_
      exact ih (a1969 + (1 : Int32)) m2049 h
def mm_game (F : Nat) (a1 : Int32) (m : xm_S) : Option (Int32 × xm_S) := xs_m (xw_i m 35 18 (0 : Int32)) fun m1949 => xc_m (mm_positionOf F (1 : Int64) m1949) fun v1963 m1964 => mm_game_l13 F a1 (fun (m2050 : xm_S) => some ((1 : Int32), m2050)) F v1963 m1964
theorem mm_game_ok {xt : Nat → Nat × (Nat → Int32)} (n d : Nat) {F : Nat} {a1 : Int32} {m m' : xm_S} {r : Int32} (h : mm_game F a1 m = some (r, m')) : xm_Run pg xt (d + 2) 105 0 0 (xQ_i (sh n) r m') 0 [some (xv_r 35), some (xv_i a1), none, none, none, none, none] [] (xq_2 (sh n) m) 0 0 := by
  unfold mm_game at h
  refine xr_aload_n (in_105 rfl) rfl ?_
  refine xr_iconst_ _ (in_105 rfl) (show _ = (0 : Int32) by decide) ?_
  refine xq_put (in_105 rfl) (fo_105 rfl) (sh_35 n) rfl (Or.inl rfl) ?_
  obtain ⟨m1949, e1950, h⟩ := xs_e h
  rw [← e1950]
  clear e1950
  refine xr_aload_n (in_105 rfl) rfl ?_
  refine xr_lconst_ _ (in_105 rfl) (show _ = (1 : Int64) by decide) ?_
  obtain ⟨v1963, m1964, e1965, h⟩ := xc_m_e h
  refine xq_calla [xv_r 35, xv_l (1 : Int64)] [] [some (xv_r 35), some (xv_l (1 : Int64)), none, none] (xk_V (in_105 rfl) (sh_35 n)) (cl_105 rfl) rfl rfl rfl rfl (mm_positionOf_ok n (d + 1) e1965) ?_
  refine xr_istore_n [some (xv_r 35), some (xv_i a1), some (xv_i v1963), none, none, none, none] (in_105 rfl) (nl_105 rfl) rfl ?_
  refine xr_iload_n (in_105 rfl) rfl ?_
  refine xr_istore_n [some (xv_r 35), some (xv_i a1), some (xv_i v1963), some (xv_i v1963), none, none, none] (in_105 rfl) (nl_105 rfl) rfl ?_
  refine xr_forget (loc' := [some (xv_r 35), some (xv_i a1), none, some (xv_i v1963), none, none, none]) (xl_s (xl_s (xl_o (xl_s (xl_o (xl_o (xl_o xl_n))))))) ?_
  refine mm_game_l13_ok n d (fun m2050 h => ?_) F v1963 m1964 h
  refine xr_iconst_ _ (in_105 rfl) (show _ = (1 : Int32) by decide) ?_
  obtain ⟨rfl, rfl⟩ := Prod.mk.inj (Option.some.inj h)
  exact xr_zret (kd_105) (in_105 rfl) (by decide) (Nat.le_refl _) (Nat.le_refl _) ⟨rfl, rfl⟩
def mm_isSafe (F : Nat) (a1 : Int32) (m : xm_S) : Option (Int32 × xm_S) := if a1 < 0 then some ((0 : Int32), m) else xg_n a1 100 (if (m.1 52 a1.toNatClampNeg) = 0 then some ((0 : Int32), m) else some ((1 : Int32), m))
theorem mm_isSafe_ok {xt : Nat → Nat × (Nat → Int32)} (n d : Nat) {F : Nat} {a1 : Int32} {m m' : xm_S} {r : Int32} (h : mm_isSafe F a1 m = some (r, m')) : xm_Run pg xt d 112 0 0 (xQ_i (sh n) r m') 0 [some (xv_r 35), some (xv_i a1)] [] (xq_2 (sh n) m) 0 0 := by
  unfold mm_isSafe at h
  refine xr_iload_n (in_112 rfl) rfl ?_
  by_cases c2090 : a1 < 0
  · replace h := (if_pos c2090).symm.trans h
    refine xr_ift 17 (in_112 rfl) rfl c2090 ?_
    refine xr_iconst_ _ (in_112 rfl) (show _ = (0 : Int32) by decide) ?_
    obtain ⟨rfl, rfl⟩ := Prod.mk.inj (Option.some.inj h)
    exact xr_zret (kd_112) (in_112 rfl) (by decide) (Nat.le_refl _) (Nat.le_refl _) ⟨rfl, rfl⟩
  · replace h := (if_neg c2090).symm.trans h
    refine xr_iff 17 (in_112 rfl) rfl c2090 ?_
    refine xr_aload_n (in_112 rfl) rfl ?_
    refine xq_getr (in_112 rfl) (fo_112 rfl) (sh_35 n) rfl ?_
    refine xr_iload_n (in_112 rfl) rfl ?_
    obtain ⟨o2091, h⟩ := xg_e h
    refine xq_bald (in_112 rfl) (sh_52 n) o2091 ?_
    by_cases c2092 : (m.1 52 a1.toNatClampNeg) = 0
    · replace h := (if_pos c2092).symm.trans h
      refine xr_ift 17 (in_112 rfl) rfl c2092 ?_
      refine xr_iconst_ _ (in_112 rfl) (show _ = (0 : Int32) by decide) ?_
      obtain ⟨rfl, rfl⟩ := Prod.mk.inj (Option.some.inj h)
      exact xr_zret (kd_112) (in_112 rfl) (by decide) (Nat.le_refl _) (Nat.le_refl _) ⟨rfl, rfl⟩
    · replace h := (if_neg c2092).symm.trans h
      refine xr_iff 17 (in_112 rfl) rfl c2092 ?_
      refine xr_iconst_ _ (in_112 rfl) (show _ = (1 : Int32) by decide) ?_
      refine xr_goto 18 (in_112 rfl) rfl ?_
      obtain ⟨rfl, rfl⟩ := Prod.mk.inj (Option.some.inj h)
      exact xr_zret (kd_112) (in_112 rfl) (by decide) (Nat.le_refl _) (Nat.le_refl _) ⟨rfl, rfl⟩
def mm_output_l5 (F : Nat) (a2083 : Int32) (a2084 : Int32) (k : Int32 → xm_S → Option (Int32 × xm_S)) : Nat → Int32 → Int32 → xm_S → Option (Int32 × xm_S)
  | 0, _, _, _ => none
  | fu + 1, a2085, a2086, m2082 => if a2086 < 0 then k a2085 m2082 else xg_n ((((16 : Int32) * a2083) + a2084) + ((4 : Int32) * a2086)) 1600 (xc_m (mm_isSafe F (m2082.1 51 ((((16 : Int32) * a2083) + a2084) + ((4 : Int32) * a2086)).toNatClampNeg) m2082) fun v2093 m2094 => if v2093 = 0 then mm_output_l5 F a2083 a2084 k fu a2085 (a2086 + (-1 : Int32)) m2094 else mm_output_l5 F a2083 a2084 k fu a2086 (a2086 + (-1 : Int32)) m2094)
theorem mm_output_l5_ok {xt : Nat → Nat × (Nat → Int32)} (n d : Nat) {F : Nat} {a2083 : Int32} {a2084 : Int32} {k : Int32 → xm_S → Option (Int32 × xm_S)} {r : Int32} {m' : xm_S} 
    (hk : ∀ (z3 : Int32) (m : xm_S), k z3 m = some (r, m') → xm_Run pg xt (d + 1) 113 0 0 (xQ_i (sh n) r m') 46 [none, none, none, some (xv_i z3), none] [] (xq_2 (sh n) m) 0 0) :
    ∀ (fu : Nat) (a2085 : Int32) (a2086 : Int32) (m2082 : xm_S), mm_output_l5 F a2083 a2084 k fu a2085 a2086 m2082 = some (r, m') → xm_Run pg xt (d + 1) 113 0 0 (xQ_i (sh n) r m') 5 [some (xv_r 35), some (xv_i a2083), some (xv_i a2084), some (xv_i a2085), some (xv_i a2086)] [] (xq_2 (sh n) m2082) 0 0 := by
  intro fu
  induction fu with
  | zero => intro a2085 a2086 m2082 h; cases h
  | succ fu ih =>
    intro a2085 a2086 m2082 h
    rw [mm_output_l5] at h
    refine xr_iload (in_113 rfl) rfl ?_
    by_cases c2087 : a2086 < 0
    · replace h := (if_pos c2087).symm.trans h
      refine xr_ift 46 (in_113 rfl) rfl c2087 ?_
      refine xr_forget (loc' := [none, none, none, some (xv_i a2085), none]) (xl_o (xl_o (xl_o (xl_s (xl_o xl_n))))) ?_
      exact hk a2085 m2082 h
    · replace h := (if_neg c2087).symm.trans h
      refine xr_iff 46 (in_113 rfl) rfl c2087 ?_
      refine xr_aload_n (in_113 rfl) rfl ?_
      refine xr_aload_n (in_113 rfl) rfl ?_
      refine xq_getr (in_113 rfl) (fo_113 rfl) (sh_35 n) rfl ?_
      refine xr_bipush_ _ (in_113 rfl) (show _ = (16 : Int32) by decide) ?_
      refine xr_iload_n (in_113 rfl) rfl ?_
      refine xr_imul (in_113 rfl) ?_
      refine xr_iload_n (in_113 rfl) rfl ?_
      refine xr_iadd (in_113 rfl) ?_
      refine xr_iconst_ _ (in_113 rfl) (show _ = (4 : Int32) by decide) ?_
      refine xr_iload (in_113 rfl) rfl ?_
      refine xr_imul (in_113 rfl) ?_
      refine xr_iadd (in_113 rfl) ?_
      obtain ⟨o2088, h⟩ := xg_e h
      refine xq_iald (in_113 rfl) (sh_51 n) o2088 ?_
      obtain ⟨v2093, m2094, e2095, h⟩ := xc_m_e h
      refine xq_calla [xv_r 35, xv_i (m2082.1 51 ((((16 : Int32) * a2083) + a2084) + ((4 : Int32) * a2086)).toNatClampNeg)] [] [some (xv_r 35), some (xv_i (m2082.1 51 ((((16 : Int32) * a2083) + a2084) + ((4 : Int32) * a2086)).toNatClampNeg))] (xk_V (in_113 rfl) (sh_35 n)) (cl_113 rfl) rfl rfl rfl rfl (mm_isSafe_ok n d e2095) ?_
      by_cases c2097 : v2093 = 0
      · replace h := (if_pos c2097).symm.trans h
        refine xr_ift 38 (in_113 rfl) rfl c2097 ?_
        refine xr_iload_n (in_113 rfl) rfl ?_
        refine xr_istore_n [some (xv_r 35), some (xv_i a2083), some (xv_i a2084), some (xv_i a2085), some (xv_i a2086)] (in_113 rfl) (nl_113 rfl) rfl ?_
        refine xr_iinc (a2086 + (-1 : Int32)) [some (xv_r 35), some (xv_i a2083), some (xv_i a2084), some (xv_i a2085), some (xv_i (a2086 + (-1 : Int32)))] (in_113 rfl) rfl (xi_m1 _) (nl_113 rfl) rfl ?_
        refine xr_goto 5 (in_113 rfl) rfl ?_
        exact ih a2085 (a2086 + (-1 : Int32)) m2094 h
      · replace h := (if_neg c2097).symm.trans h
        refine xr_iff 38 (in_113 rfl) rfl c2097 ?_
        refine xr_iload (in_113 rfl) rfl ?_
        refine xr_goto 39 (in_113 rfl) rfl ?_
        refine xr_istore_n [some (xv_r 35), some (xv_i a2083), some (xv_i a2084), some (xv_i a2086), some (xv_i a2086)] (in_113 rfl) (nl_113 rfl) rfl ?_
        refine xr_iinc (a2086 + (-1 : Int32)) [some (xv_r 35), some (xv_i a2083), some (xv_i a2084), some (xv_i a2086), some (xv_i (a2086 + (-1 : Int32)))] (in_113 rfl) rfl (xi_m1 _) (nl_113 rfl) rfl ?_
        refine xr_goto 5 (in_113 rfl) rfl ?_
        exact ih a2086 (a2086 + (-1 : Int32)) m2094 h
def mm_output (F : Nat) (a1 : Int32) (a2 : Int32) (m : xm_S) : Option (Int32 × xm_S) := mm_output_l5 F a1 a2 (fun (x2098 : Int32) (m2099 : xm_S) => some (x2098, m2099)) F (-1 : Int32) (3 : Int32) m
theorem mm_output_ok {xt : Nat → Nat × (Nat → Int32)} (n d : Nat) {F : Nat} {a1 : Int32} {a2 : Int32} {m m' : xm_S} {r : Int32} (h : mm_output F a1 a2 m = some (r, m')) : xm_Run pg xt (d + 1) 113 0 0 (xQ_i (sh n) r m') 0 [some (xv_r 35), some (xv_i a1), some (xv_i a2), none, none] [] (xq_2 (sh n) m) 0 0 := by
  unfold mm_output at h
  refine xr_iconst_ _ (in_113 rfl) (show _ = (-1 : Int32) by decide) ?_
  refine xr_istore_n [some (xv_r 35), some (xv_i a1), some (xv_i a2), some (xv_i (-1 : Int32)), none] (in_113 rfl) (nl_113 rfl) rfl ?_
  refine xr_iconst_ _ (in_113 rfl) (show _ = (3 : Int32) by decide) ?_
  refine xr_istore [some (xv_r 35), some (xv_i a1), some (xv_i a2), some (xv_i (-1 : Int32)), some (xv_i (3 : Int32))] (in_113 rfl) (nl_113 rfl) rfl ?_
  refine mm_output_l5_ok n d (fun x2098 m2099 h => ?_) F (-1 : Int32) (3 : Int32) m h
  refine xr_iload_n (in_113 rfl) rfl ?_
  obtain ⟨rfl, rfl⟩ := Prod.mk.inj (Option.some.inj h)
  exact xr_iret (kd_113) (in_113 rfl) (Nat.le_refl _) (Nat.le_refl _) ⟨rfl, rfl⟩
def mm_input_l14 (F : Nat) (a2114 : Int32) (a2115 : Int32) (a2116 : Int32) (k : Int32 → xm_S → Option (Int32 × xm_S)) : Nat → Int32 → Int32 → xm_S → Option (Int32 × xm_S)
  | 0, _, _, _ => none
  | fu + 1, a2117, a2118, m2113 => if (4 : Int32) ≤ a2118 then k a2117 m2113 else if a2117 = 0 then mm_input_l14 F a2114 a2115 a2116 k fu (0 : Int32) (a2118 + (1 : Int32)) m2113 else xg_n ((((16 : Int32) * a2114) + a2116) + ((4 : Int32) * a2118)) 1600 (xc_m (mm_isSafe F (m2113.1 51 ((((16 : Int32) * a2114) + a2116) + ((4 : Int32) * a2118)).toNatClampNeg) m2113) fun v2122 m2123 => if v2122 = 0 then mm_input_l14 F a2114 a2115 a2116 k fu (0 : Int32) (a2118 + (1 : Int32)) m2123 else mm_input_l14 F a2114 a2115 a2116 k fu (1 : Int32) (a2118 + (1 : Int32)) m2123)
theorem mm_input_l14_ok {xt : Nat → Nat × (Nat → Int32)} (n d : Nat) {F : Nat} {a2114 : Int32} {a2115 : Int32} {a2116 : Int32} {k : Int32 → xm_S → Option (Int32 × xm_S)} {r : Int32} {m' : xm_S} 
    (hk : ∀ (z4 : Int32) (m : xm_S), k z4 m = some (r, m') → xm_Run pg xt (d + 1) 111 0 0 (xQ_i (sh n) r m') 61 [some (xv_r 35), some (xv_i a2114), some (xv_i a2115), some (xv_i a2116), some (xv_i z4), none] [] (xq_2 (sh n) m) 0 0) :
    ∀ (fu : Nat) (a2117 : Int32) (a2118 : Int32) (m2113 : xm_S), mm_input_l14 F a2114 a2115 a2116 k fu a2117 a2118 m2113 = some (r, m') → xm_Run pg xt (d + 1) 111 0 0 (xQ_i (sh n) r m') 14 [some (xv_r 35), some (xv_i a2114), some (xv_i a2115), some (xv_i a2116), some (xv_i a2117), some (xv_i a2118)] [] (xq_2 (sh n) m2113) 0 0 := by
  intro fu
  induction fu with
  | zero => intro a2117 a2118 m2113 h; cases h
  | succ fu ih =>
    intro a2117 a2118 m2113 h
    rw [mm_input_l14] at h
    refine xr_iload (in_111 rfl) rfl ?_
    refine xr_iconst_ _ (in_111 rfl) (show _ = (4 : Int32) by decide) ?_
    by_cases c2119 : (4 : Int32) ≤ a2118
    · replace h := (if_pos c2119).symm.trans h
      refine xr_ict 61 (in_111 rfl) rfl c2119 ?_
      refine xr_forget (loc' := [some (xv_r 35), some (xv_i a2114), some (xv_i a2115), some (xv_i a2116), some (xv_i a2117), none]) (xl_s (xl_s (xl_s (xl_s (xl_s (xl_o xl_n)))))) ?_
      exact hk a2117 m2113 h
    · replace h := (if_neg c2119).symm.trans h
      refine xr_icf 61 (in_111 rfl) rfl c2119 ?_
      refine xr_iload (in_111 rfl) rfl ?_
      by_cases c2120 : a2117 = 0
      · replace h := (if_pos c2120).symm.trans h
        refine xr_ift 52 (in_111 rfl) rfl c2120 ?_
        refine xr_iconst_ _ (in_111 rfl) (show _ = (0 : Int32) by decide) ?_
        refine xr_istore [some (xv_r 35), some (xv_i a2114), some (xv_i a2115), some (xv_i a2116), some (xv_i (0 : Int32)), some (xv_i a2118)] (in_111 rfl) (nl_111 rfl) rfl ?_
        refine xr_iinc (a2118 + (1 : Int32)) [some (xv_r 35), some (xv_i a2114), some (xv_i a2115), some (xv_i a2116), some (xv_i (0 : Int32)), some (xv_i (a2118 + (1 : Int32)))] (in_111 rfl) rfl (xi_1 _) (nl_111 rfl) rfl ?_
        refine xr_goto 14 (in_111 rfl) rfl ?_
        exact ih (0 : Int32) (a2118 + (1 : Int32)) m2113 h
      · replace h := (if_neg c2120).symm.trans h
        refine xr_iff 52 (in_111 rfl) rfl c2120 ?_
        refine xr_aload_n (in_111 rfl) rfl ?_
        refine xr_aload_n (in_111 rfl) rfl ?_
        refine xq_getr (in_111 rfl) (fo_111 rfl) (sh_35 n) rfl ?_
        refine xr_bipush_ _ (in_111 rfl) (show _ = (16 : Int32) by decide) ?_
        refine xr_iload_n (in_111 rfl) rfl ?_
        refine xr_imul (in_111 rfl) ?_
        refine xr_iload_n (in_111 rfl) rfl ?_
        refine xr_iadd (in_111 rfl) ?_
        refine xr_iconst_ _ (in_111 rfl) (show _ = (4 : Int32) by decide) ?_
        refine xr_iload (in_111 rfl) rfl ?_
        refine xr_imul (in_111 rfl) ?_
        refine xr_iadd (in_111 rfl) ?_
        obtain ⟨o2121, h⟩ := xg_e h
        refine xq_iald (in_111 rfl) (sh_51 n) o2121 ?_
        obtain ⟨v2122, m2123, e2124, h⟩ := xc_m_e h
        refine xq_calla [xv_r 35, xv_i (m2113.1 51 ((((16 : Int32) * a2114) + a2116) + ((4 : Int32) * a2118)).toNatClampNeg)] [] [some (xv_r 35), some (xv_i (m2113.1 51 ((((16 : Int32) * a2114) + a2116) + ((4 : Int32) * a2118)).toNatClampNeg))] (xk_V (in_111 rfl) (sh_35 n)) (cl_111 rfl) rfl rfl rfl rfl (mm_isSafe_ok n d e2124) ?_
        by_cases c2126 : v2122 = 0
        · replace h := (if_pos c2126).symm.trans h
          refine xr_ift 52 (in_111 rfl) rfl c2126 ?_
          refine xr_iconst_ _ (in_111 rfl) (show _ = (0 : Int32) by decide) ?_
          refine xr_istore [some (xv_r 35), some (xv_i a2114), some (xv_i a2115), some (xv_i a2116), some (xv_i (0 : Int32)), some (xv_i a2118)] (in_111 rfl) (nl_111 rfl) rfl ?_
          refine xr_iinc (a2118 + (1 : Int32)) [some (xv_r 35), some (xv_i a2114), some (xv_i a2115), some (xv_i a2116), some (xv_i (0 : Int32)), some (xv_i (a2118 + (1 : Int32)))] (in_111 rfl) rfl (xi_1 _) (nl_111 rfl) rfl ?_
          refine xr_goto 14 (in_111 rfl) rfl ?_
          exact ih (0 : Int32) (a2118 + (1 : Int32)) m2123 h
        · replace h := (if_neg c2126).symm.trans h
          refine xr_iff 52 (in_111 rfl) rfl c2126 ?_
          refine xr_iconst_ _ (in_111 rfl) (show _ = (1 : Int32) by decide) ?_
          refine xr_goto 53 (in_111 rfl) rfl ?_
          refine xr_istore [some (xv_r 35), some (xv_i a2114), some (xv_i a2115), some (xv_i a2116), some (xv_i (1 : Int32)), some (xv_i a2118)] (in_111 rfl) (nl_111 rfl) rfl ?_
          refine xr_iinc (a2118 + (1 : Int32)) [some (xv_r 35), some (xv_i a2114), some (xv_i a2115), some (xv_i a2116), some (xv_i (1 : Int32)), some (xv_i (a2118 + (1 : Int32)))] (in_111 rfl) rfl (xi_1 _) (nl_111 rfl) rfl ?_
          refine xr_goto 14 (in_111 rfl) rfl ?_
          exact ih (1 : Int32) (a2118 + (1 : Int32)) m2123 h
def mm_input_l4 (F : Nat) (a2109 : Int32) (k : Int32 → xm_S → Option (Int32 × xm_S)) : Nat → Int32 → Int32 → xm_S → Option (Int32 × xm_S)
  | 0, _, _, _ => none
  | fu + 1, a2110, a2111, m2108 => if a2111 < 0 then k a2110 m2108 else mm_input_l14 F a2109 a2110 a2111 (fun (x2127 : Int32) (m2128 : xm_S) => if x2127 = 0 then mm_input_l4 F a2109 k fu a2110 (a2111 + (-1 : Int32)) m2128 else mm_input_l4 F a2109 k fu a2111 (a2111 + (-1 : Int32)) m2128) F (1 : Int32) (0 : Int32) m2108
theorem mm_input_l4_ok {xt : Nat → Nat × (Nat → Int32)} (n d : Nat) {F : Nat} {a2109 : Int32} {k : Int32 → xm_S → Option (Int32 × xm_S)} {r : Int32} {m' : xm_S} 
    (hk : ∀ (z2 : Int32) (m : xm_S), k z2 m = some (r, m') → xm_Run pg xt (d + 1) 111 0 0 (xQ_i (sh n) r m') 78 [none, none, some (xv_i z2), none, none, none] [] (xq_2 (sh n) m) 0 0) :
    ∀ (fu : Nat) (a2110 : Int32) (a2111 : Int32) (m2108 : xm_S), mm_input_l4 F a2109 k fu a2110 a2111 m2108 = some (r, m') → xm_Run pg xt (d + 1) 111 0 0 (xQ_i (sh n) r m') 4 [some (xv_r 35), some (xv_i a2109), some (xv_i a2110), some (xv_i a2111), none, none] [] (xq_2 (sh n) m2108) 0 0 := by
  intro fu
  induction fu with
  | zero => intro a2110 a2111 m2108 h; cases h
  | succ fu ih =>
    intro a2110 a2111 m2108 h
    rw [mm_input_l4] at h
    refine xr_iload_n (in_111 rfl) rfl ?_
    by_cases c2112 : a2111 < 0
    · replace h := (if_pos c2112).symm.trans h
      refine xr_ift 78 (in_111 rfl) rfl c2112 ?_
      refine xr_forget (loc' := [none, none, some (xv_i a2110), none, none, none]) (xl_o (xl_o (xl_s (xl_o (xl_o (xl_o xl_n)))))) ?_
      exact hk a2110 m2108 h
    · replace h := (if_neg c2112).symm.trans h
      refine xr_iff 78 (in_111 rfl) rfl c2112 ?_
      refine xr_iconst_ _ (in_111 rfl) (show _ = (1 : Int32) by decide) ?_
      refine xr_istore [some (xv_r 35), some (xv_i a2109), some (xv_i a2110), some (xv_i a2111), some (xv_i (1 : Int32)), none] (in_111 rfl) (nl_111 rfl) rfl ?_
      refine xr_iconst_ _ (in_111 rfl) (show _ = (0 : Int32) by decide) ?_
      refine xr_istore [some (xv_r 35), some (xv_i a2109), some (xv_i a2110), some (xv_i a2111), some (xv_i (1 : Int32)), some (xv_i (0 : Int32))] (in_111 rfl) (nl_111 rfl) rfl ?_
      refine mm_input_l14_ok n d (fun x2127 m2128 h => ?_) F (1 : Int32) (0 : Int32) m2108 h
      refine xr_iload (in_111 rfl) rfl ?_
      by_cases c2129 : x2127 = 0
      · replace h := (if_pos c2129).symm.trans h
        refine xr_ift 70 (in_111 rfl) rfl c2129 ?_
        refine xr_iload_n (in_111 rfl) rfl ?_
        refine xr_istore_n [some (xv_r 35), some (xv_i a2109), some (xv_i a2110), some (xv_i a2111), some (xv_i x2127), none] (in_111 rfl) (nl_111 rfl) rfl ?_
        refine xr_iinc (a2111 + (-1 : Int32)) [some (xv_r 35), some (xv_i a2109), some (xv_i a2110), some (xv_i (a2111 + (-1 : Int32))), some (xv_i x2127), none] (in_111 rfl) rfl (xi_m1 _) (nl_111 rfl) rfl ?_
        refine xr_goto 4 (in_111 rfl) rfl ?_
        refine xr_forget (loc' := [some (xv_r 35), some (xv_i a2109), some (xv_i a2110), some (xv_i (a2111 + (-1 : Int32))), none, none]) (xl_s (xl_s (xl_s (xl_s (xl_o (xl_o xl_n)))))) ?_
        exact ih a2110 (a2111 + (-1 : Int32)) m2128 h
      · replace h := (if_neg c2129).symm.trans h
        refine xr_iff 70 (in_111 rfl) rfl c2129 ?_
        refine xr_iload_n (in_111 rfl) rfl ?_
        refine xr_goto 71 (in_111 rfl) rfl ?_
        refine xr_istore_n [some (xv_r 35), some (xv_i a2109), some (xv_i a2111), some (xv_i a2111), some (xv_i x2127), none] (in_111 rfl) (nl_111 rfl) rfl ?_
        refine xr_iinc (a2111 + (-1 : Int32)) [some (xv_r 35), some (xv_i a2109), some (xv_i a2111), some (xv_i (a2111 + (-1 : Int32))), some (xv_i x2127), none] (in_111 rfl) rfl (xi_m1 _) (nl_111 rfl) rfl ?_
        refine xr_goto 4 (in_111 rfl) rfl ?_
        refine xr_forget (loc' := [some (xv_r 35), some (xv_i a2109), some (xv_i a2111), some (xv_i (a2111 + (-1 : Int32))), none, none]) (xl_s (xl_s (xl_s (xl_s (xl_o (xl_o xl_n)))))) ?_
        exact ih a2111 (a2111 + (-1 : Int32)) m2128 h
def mm_input (F : Nat) (a1 : Int32) (m : xm_S) : Option (Int32 × xm_S) := mm_input_l4 F a1 (fun (x2130 : Int32) (m2131 : xm_S) => some (x2130, m2131)) F (-1 : Int32) (3 : Int32) m
theorem mm_input_ok {xt : Nat → Nat × (Nat → Int32)} (n d : Nat) {F : Nat} {a1 : Int32} {m m' : xm_S} {r : Int32} (h : mm_input F a1 m = some (r, m')) : xm_Run pg xt (d + 1) 111 0 0 (xQ_i (sh n) r m') 0 [some (xv_r 35), some (xv_i a1), none, none, none, none] [] (xq_2 (sh n) m) 0 0 := by
  unfold mm_input at h
  refine xr_iconst_ _ (in_111 rfl) (show _ = (-1 : Int32) by decide) ?_
  refine xr_istore_n [some (xv_r 35), some (xv_i a1), some (xv_i (-1 : Int32)), none, none, none] (in_111 rfl) (nl_111 rfl) rfl ?_
  refine xr_iconst_ _ (in_111 rfl) (show _ = (3 : Int32) by decide) ?_
  refine xr_istore_n [some (xv_r 35), some (xv_i a1), some (xv_i (-1 : Int32)), some (xv_i (3 : Int32)), none, none] (in_111 rfl) (nl_111 rfl) rfl ?_
  refine mm_input_l4_ok n d (fun x2130 m2131 h => ?_) F (-1 : Int32) (3 : Int32) m h
  refine xr_iload_n (in_111 rfl) rfl ?_
  obtain ⟨rfl, rfl⟩ := Prod.mk.inj (Option.some.inj h)
  exact xr_iret (kd_111) (in_111 rfl) (Nat.le_refl _) (Nat.le_refl _) ⟨rfl, rfl⟩
def mm_stays_l23 (F : Nat) (a2077 : Int32) (k : Int32 → xm_S → Option (Int32 × xm_S)) : Nat → Int32 → Int32 → xm_S → Option (Int32 × xm_S)
  | 0, _, _, _ => none
  | fu + 1, a2078, a2079, m2076 => if (4 : Int32) ≤ a2079 then k a2078 m2076 else if a2078 = 0 then mm_stays_l23 F a2077 k fu (0 : Int32) (a2079 + (1 : Int32)) m2076 else xc_m (mm_output F a2077 a2079 m2076) fun v2100 m2101 => if v2100 < 0 then mm_stays_l23 F a2077 k fu (0 : Int32) (a2079 + (1 : Int32)) m2101 else mm_stays_l23 F a2077 k fu (1 : Int32) (a2079 + (1 : Int32)) m2101
theorem mm_stays_l23_ok {xt : Nat → Nat × (Nat → Int32)} (n d : Nat) {F : Nat} {a2077 : Int32} {k : Int32 → xm_S → Option (Int32 × xm_S)} {r : Int32} {m' : xm_S} 
    (hk : ∀ (z3 : Int32) (m : xm_S), k z3 m = some (r, m') → xm_Run pg xt (d + 2) 110 0 0 (xQ_i (sh n) r m') 55 [none, none, none, some (xv_i z3), none] [] (xq_2 (sh n) m) 0 0) :
    ∀ (fu : Nat) (a2078 : Int32) (a2079 : Int32) (m2076 : xm_S), mm_stays_l23 F a2077 k fu a2078 a2079 m2076 = some (r, m') → xm_Run pg xt (d + 2) 110 0 0 (xQ_i (sh n) r m') 23 [some (xv_r 35), some (xv_i a2077), none, some (xv_i a2078), some (xv_i a2079)] [] (xq_2 (sh n) m2076) 0 0 := by
  intro fu
  induction fu with
  | zero => intro a2078 a2079 m2076 h; cases h
  | succ fu ih =>
    intro a2078 a2079 m2076 h
    rw [mm_stays_l23] at h
    refine xr_iload (in_110 rfl) rfl ?_
    refine xr_iconst_ _ (in_110 rfl) (show _ = (4 : Int32) by decide) ?_
    by_cases c2080 : (4 : Int32) ≤ a2079
    · replace h := (if_pos c2080).symm.trans h
      refine xr_ict 55 (in_110 rfl) rfl c2080 ?_
      refine xr_forget (loc' := [none, none, none, some (xv_i a2078), none]) (xl_o (xl_o (xl_o (xl_s (xl_o xl_n))))) ?_
      exact hk a2078 m2076 h
    · replace h := (if_neg c2080).symm.trans h
      refine xr_icf 55 (in_110 rfl) rfl c2080 ?_
      refine xr_iload_n (in_110 rfl) rfl ?_
      by_cases c2081 : a2078 = 0
      · replace h := (if_pos c2081).symm.trans h
        refine xr_ift 47 (in_110 rfl) rfl c2081 ?_
        refine xr_iconst_ _ (in_110 rfl) (show _ = (0 : Int32) by decide) ?_
        refine xr_istore_n [some (xv_r 35), some (xv_i a2077), none, some (xv_i (0 : Int32)), some (xv_i a2079)] (in_110 rfl) (nl_110 rfl) rfl ?_
        refine xr_iinc (a2079 + (1 : Int32)) [some (xv_r 35), some (xv_i a2077), none, some (xv_i (0 : Int32)), some (xv_i (a2079 + (1 : Int32)))] (in_110 rfl) rfl (xi_1 _) (nl_110 rfl) rfl ?_
        refine xr_goto 23 (in_110 rfl) rfl ?_
        exact ih (0 : Int32) (a2079 + (1 : Int32)) m2076 h
      · replace h := (if_neg c2081).symm.trans h
        refine xr_iff 47 (in_110 rfl) rfl c2081 ?_
        refine xr_aload_n (in_110 rfl) rfl ?_
        refine xr_iload_n (in_110 rfl) rfl ?_
        refine xr_iload (in_110 rfl) rfl ?_
        obtain ⟨v2100, m2101, e2102, h⟩ := xc_m_e h
        refine xq_calla [xv_r 35, xv_i a2077, xv_i a2079] [] [some (xv_r 35), some (xv_i a2077), some (xv_i a2079), none, none] (xk_V (in_110 rfl) (sh_35 n)) (cl_110 rfl) rfl rfl rfl rfl (mm_output_ok n d e2102) ?_
        by_cases c2104 : v2100 < 0
        · replace h := (if_pos c2104).symm.trans h
          refine xr_ift 47 (in_110 rfl) rfl c2104 ?_
          refine xr_iconst_ _ (in_110 rfl) (show _ = (0 : Int32) by decide) ?_
          refine xr_istore_n [some (xv_r 35), some (xv_i a2077), none, some (xv_i (0 : Int32)), some (xv_i a2079)] (in_110 rfl) (nl_110 rfl) rfl ?_
          refine xr_iinc (a2079 + (1 : Int32)) [some (xv_r 35), some (xv_i a2077), none, some (xv_i (0 : Int32)), some (xv_i (a2079 + (1 : Int32)))] (in_110 rfl) rfl (xi_1 _) (nl_110 rfl) rfl ?_
          refine xr_goto 23 (in_110 rfl) rfl ?_
          exact ih (0 : Int32) (a2079 + (1 : Int32)) m2101 h
        · replace h := (if_neg c2104).symm.trans h
          refine xr_iff 47 (in_110 rfl) rfl c2104 ?_
          refine xr_iconst_ _ (in_110 rfl) (show _ = (1 : Int32) by decide) ?_
          refine xr_goto 48 (in_110 rfl) rfl ?_
          refine xr_istore_n [some (xv_r 35), some (xv_i a2077), none, some (xv_i (1 : Int32)), some (xv_i a2079)] (in_110 rfl) (nl_110 rfl) rfl ?_
          refine xr_iinc (a2079 + (1 : Int32)) [some (xv_r 35), some (xv_i a2077), none, some (xv_i (1 : Int32)), some (xv_i (a2079 + (1 : Int32)))] (in_110 rfl) rfl (xi_1 _) (nl_110 rfl) rfl ?_
          refine xr_goto 23 (in_110 rfl) rfl ?_
          exact ih (1 : Int32) (a2079 + (1 : Int32)) m2101 h
def mm_stays (F : Nat) (a1 : Int32) (a2 : Int32) (m : xm_S) : Option (Int32 × xm_S) := if a2 = 0 then xc_m (mm_input F a1 m) fun v2132 m2133 => if v2132 < 0 then some ((0 : Int32), m2133) else some ((1 : Int32), m2133) else mm_stays_l23 F a1 (fun (x2105 : Int32) (m2106 : xm_S) => xg_b x2105 (some (x2105, m2106))) F (1 : Int32) (0 : Int32) m
theorem mm_stays_ok {xt : Nat → Nat × (Nat → Int32)} (n d : Nat) {F : Nat} {a1 : Int32} {a2 : Int32} {m m' : xm_S} {r : Int32} (h : mm_stays F a1 a2 m = some (r, m')) : xm_Run pg xt (d + 2) 110 0 0 (xQ_i (sh n) r m') 0 [some (xv_r 35), some (xv_i a1), some (xv_i a2), none, none] [] (xq_2 (sh n) m) 0 0 := by
  unfold mm_stays at h
  refine xr_iload_n (in_110 rfl) rfl ?_
  by_cases c2075 : a2 = 0
  · replace h := (if_pos c2075).symm.trans h
    refine xr_iff 18 (in_110 rfl) rfl (fun q => q c2075) ?_
    refine xr_aload_n (in_110 rfl) rfl ?_
    refine xr_iload_n (in_110 rfl) rfl ?_
    obtain ⟨v2132, m2133, e2134, h⟩ := xc_m_e h
    refine xq_calla [xv_r 35, xv_i a1] [] [some (xv_r 35), some (xv_i a1), none, none, none, none] (xk_V (in_110 rfl) (sh_35 n)) (cl_110 rfl) rfl rfl rfl rfl (mm_input_ok n d e2134) ?_
    by_cases c2136 : v2132 < 0
    · replace h := (if_pos c2136).symm.trans h
      refine xr_ift 16 (in_110 rfl) rfl c2136 ?_
      refine xr_iconst_ _ (in_110 rfl) (show _ = (0 : Int32) by decide) ?_
      obtain ⟨rfl, rfl⟩ := Prod.mk.inj (Option.some.inj h)
      exact xr_zret (kd_110) (in_110 rfl) (by decide) (Nat.le_refl _) (Nat.le_refl _) ⟨rfl, rfl⟩
    · replace h := (if_neg c2136).symm.trans h
      refine xr_iff 16 (in_110 rfl) rfl c2136 ?_
      refine xr_iconst_ _ (in_110 rfl) (show _ = (1 : Int32) by decide) ?_
      refine xr_goto 17 (in_110 rfl) rfl ?_
      obtain ⟨rfl, rfl⟩ := Prod.mk.inj (Option.some.inj h)
      exact xr_zret (kd_110) (in_110 rfl) (by decide) (Nat.le_refl _) (Nat.le_refl _) ⟨rfl, rfl⟩
  · replace h := (if_neg c2075).symm.trans h
    refine xr_ift 18 (in_110 rfl) rfl c2075 ?_
    refine xr_iconst_ _ (in_110 rfl) (show _ = (1 : Int32) by decide) ?_
    refine xr_istore_n [some (xv_r 35), some (xv_i a1), some (xv_i a2), some (xv_i (1 : Int32)), none] (in_110 rfl) (nl_110 rfl) rfl ?_
    refine xr_iconst_ _ (in_110 rfl) (show _ = (0 : Int32) by decide) ?_
    refine xr_istore [some (xv_r 35), some (xv_i a1), some (xv_i a2), some (xv_i (1 : Int32)), some (xv_i (0 : Int32))] (in_110 rfl) (nl_110 rfl) rfl ?_
    refine xr_forget (loc' := [some (xv_r 35), some (xv_i a1), none, some (xv_i (1 : Int32)), some (xv_i (0 : Int32))]) (xl_s (xl_s (xl_o (xl_s (xl_s xl_n))))) ?_
    refine mm_stays_l23_ok n d (fun x2105 m2106 h => ?_) F (1 : Int32) (0 : Int32) m h
    refine xr_iload_n (in_110 rfl) rfl ?_
    obtain ⟨o2107, h⟩ := xg_b_e h
    obtain ⟨rfl, rfl⟩ := Prod.mk.inj (Option.some.inj h)
    exact xr_zret (kd_110) (in_110 rfl) o2107 (Nat.le_refl _) (Nat.le_refl _) ⟨rfl, rfl⟩
def mm_findSafe_l2 (F : Nat) (a2057 : Int32) (k : xm_S → Option (xm_S)) : Nat → Int32 → xm_S → Option (xm_S)
  | 0, _, _ => none
  | fu + 1, a2058, m2056 => if (m2056.1 35 18) ≤ a2058 then k m2056 else xg_n a2058 100 (xs_m (xw_i m2056 52 a2058.toNatClampNeg (1 : Int32)) fun m2061 => mm_findSafe_l2 F a2057 k fu (a2058 + (1 : Int32)) m2061)
theorem mm_findSafe_l2_ok {xt : Nat → Nat × (Nat → Int32)} (n d : Nat) {F : Nat} {a2057 : Int32} {k : xm_S → Option (xm_S)} {m' : xm_S} 
    (hk : ∀ (m : xm_S), k m = some m' → xm_Run pg xt (d + 3) 109 0 0 (xQ_v (sh n) m') 23 [some (xv_r 35), some (xv_i a2057), none, none] [] (xq_2 (sh n) m) 0 0) :
    ∀ (fu : Nat) (a2058 : Int32) (m2056 : xm_S), mm_findSafe_l2 F a2057 k fu a2058 m2056 = some m' → xm_Run pg xt (d + 3) 109 0 0 (xQ_v (sh n) m') 2 [some (xv_r 35), some (xv_i a2057), some (xv_i a2058), none] [] (xq_2 (sh n) m2056) 0 0 := by
  intro fu
  induction fu with
  | zero => intro a2058 m2056 h; cases h
  | succ fu ih =>
    intro a2058 m2056 h
    rw [mm_findSafe_l2] at h
    refine xr_iload_n (in_109 rfl) rfl ?_
    refine xr_aload_n (in_109 rfl) rfl ?_
    refine xq_geti (in_109 rfl) (fo_109 rfl) (sh_35 n) rfl ?_
    by_cases c2059 : (m2056.1 35 18) ≤ a2058
    · replace h := (if_pos c2059).symm.trans h
      refine xr_ict 23 (in_109 rfl) rfl c2059 ?_
      refine xr_forget (loc' := [some (xv_r 35), some (xv_i a2057), none, none]) (xl_s (xl_s (xl_o (xl_o xl_n)))) ?_
      exact hk m2056 h
    · replace h := (if_neg c2059).symm.trans h
      refine xr_icf 23 (in_109 rfl) rfl c2059 ?_
      refine xr_aload_n (in_109 rfl) rfl ?_
      refine xq_getr (in_109 rfl) (fo_109 rfl) (sh_35 n) rfl ?_
      refine xr_iload_n (in_109 rfl) rfl ?_
      refine xr_iconst_ _ (in_109 rfl) (show _ = (1 : Int32) by decide) ?_
      obtain ⟨o2060, h⟩ := xg_e h
      refine xq_bast (in_109 rfl) (sh_52 n) o2060 (by decide) ?_
      obtain ⟨m2061, e2062, h⟩ := xs_e h
      rw [← e2062]
      clear e2062
      refine xr_iinc (a2058 + (1 : Int32)) [some (xv_r 35), some (xv_i a2057), some (xv_i (a2058 + (1 : Int32))), none] (in_109 rfl) rfl (xi_1 _) (nl_109 rfl) rfl ?_
      refine xr_goto 2 (in_109 rfl) rfl ?_
      exact ih (a2058 + (1 : Int32)) m2061 h
def mm_findSafe_l33 (F : Nat) (a2069 : Int32) (k : Int32 → xm_S → Option (xm_S)) : Nat → Int32 → Int32 → xm_S → Option (xm_S)
  | 0, _, _, _ => none
  | fu + 1, a2070, a2071, m2068 => if (m2068.1 35 18) ≤ a2071 then k a2070 m2068 else xg_n a2071 100 (if (m2068.1 52 a2071.toNatClampNeg) = 0 then mm_findSafe_l33 F a2069 k fu a2070 (a2071 + (1 : Int32)) m2068 else xc_m (mm_stays F a2071 a2069 m2068) fun v2137 m2138 => if v2137 = 0 then xg_n a2071 100 (xs_m (xw_i m2138 52 a2071.toNatClampNeg (0 : Int32)) fun m2143 => mm_findSafe_l33 F a2069 k fu (1 : Int32) (a2071 + (1 : Int32)) m2143) else mm_findSafe_l33 F a2069 k fu a2070 (a2071 + (1 : Int32)) m2138)
theorem mm_findSafe_l33_ok {xt : Nat → Nat × (Nat → Int32)} (n d : Nat) {F : Nat} {a2069 : Int32} {k : Int32 → xm_S → Option (xm_S)} {m' : xm_S} 
    (hk : ∀ (z2 : Int32) (m : xm_S), k z2 m = some m' → xm_Run pg xt (d + 3) 109 0 0 (xQ_v (sh n) m') 74 [some (xv_r 35), some (xv_i a2069), some (xv_i z2), none] [] (xq_2 (sh n) m) 0 0) :
    ∀ (fu : Nat) (a2070 : Int32) (a2071 : Int32) (m2068 : xm_S), mm_findSafe_l33 F a2069 k fu a2070 a2071 m2068 = some m' → xm_Run pg xt (d + 3) 109 0 0 (xQ_v (sh n) m') 33 [some (xv_r 35), some (xv_i a2069), some (xv_i a2070), some (xv_i a2071)] [] (xq_2 (sh n) m2068) 0 0 := by
  intro fu
  induction fu with
  | zero => intro a2070 a2071 m2068 h; cases h
  | succ fu ih =>
    intro a2070 a2071 m2068 h
    rw [mm_findSafe_l33] at h
    refine xr_iload_n (in_109 rfl) rfl ?_
    refine xr_aload_n (in_109 rfl) rfl ?_
    refine xq_geti (in_109 rfl) (fo_109 rfl) (sh_35 n) rfl ?_
    by_cases c2072 : (m2068.1 35 18) ≤ a2071
    · replace h := (if_pos c2072).symm.trans h
      refine xr_ict 74 (in_109 rfl) rfl c2072 ?_
      refine xr_forget (loc' := [some (xv_r 35), some (xv_i a2069), some (xv_i a2070), none]) (xl_s (xl_s (xl_s (xl_o xl_n)))) ?_
      exact hk a2070 m2068 h
    · replace h := (if_neg c2072).symm.trans h
      refine xr_icf 74 (in_109 rfl) rfl c2072 ?_
      refine xr_aload_n (in_109 rfl) rfl ?_
      refine xq_getr (in_109 rfl) (fo_109 rfl) (sh_35 n) rfl ?_
      refine xr_iload_n (in_109 rfl) rfl ?_
      obtain ⟨o2073, h⟩ := xg_e h
      refine xq_bald (in_109 rfl) (sh_52 n) o2073 ?_
      by_cases c2074 : (m2068.1 52 a2071.toNatClampNeg) = 0
      · replace h := (if_pos c2074).symm.trans h
        refine xr_ift 68 (in_109 rfl) rfl c2074 ?_
        refine xr_iinc (a2071 + (1 : Int32)) [some (xv_r 35), some (xv_i a2069), some (xv_i a2070), some (xv_i (a2071 + (1 : Int32)))] (in_109 rfl) rfl (xi_1 _) (nl_109 rfl) rfl ?_
        refine xr_goto 33 (in_109 rfl) rfl ?_
        exact ih a2070 (a2071 + (1 : Int32)) m2068 h
      · replace h := (if_neg c2074).symm.trans h
        refine xr_iff 68 (in_109 rfl) rfl c2074 ?_
        refine xr_aload_n (in_109 rfl) rfl ?_
        refine xr_iload_n (in_109 rfl) rfl ?_
        refine xr_iload_n (in_109 rfl) rfl ?_
        obtain ⟨v2137, m2138, e2139, h⟩ := xc_m_e h
        refine xq_calla [xv_r 35, xv_i a2071, xv_i a2069] [] [some (xv_r 35), some (xv_i a2071), some (xv_i a2069), none, none] (xk_V (in_109 rfl) (sh_35 n)) (cl_109 rfl) rfl rfl rfl rfl (mm_stays_ok n d e2139) ?_
        by_cases c2141 : v2137 = 0
        · replace h := (if_pos c2141).symm.trans h
          refine xr_iff 68 (in_109 rfl) rfl (fun q => q c2141) ?_
          refine xr_aload_n (in_109 rfl) rfl ?_
          refine xq_getr (in_109 rfl) (fo_109 rfl) (sh_35 n) rfl ?_
          refine xr_iload_n (in_109 rfl) rfl ?_
          refine xr_iconst_ _ (in_109 rfl) (show _ = (0 : Int32) by decide) ?_
          obtain ⟨o2142, h⟩ := xg_e h
          refine xq_bast (in_109 rfl) (sh_52 n) o2142 (by decide) ?_
          obtain ⟨m2143, e2144, h⟩ := xs_e h
          rw [← e2144]
          clear e2144
          refine xr_iconst_ _ (in_109 rfl) (show _ = (1 : Int32) by decide) ?_
          refine xr_istore_n [some (xv_r 35), some (xv_i a2069), some (xv_i (1 : Int32)), some (xv_i a2071)] (in_109 rfl) (nl_109 rfl) rfl ?_
          refine xr_iinc (a2071 + (1 : Int32)) [some (xv_r 35), some (xv_i a2069), some (xv_i (1 : Int32)), some (xv_i (a2071 + (1 : Int32)))] (in_109 rfl) rfl (xi_1 _) (nl_109 rfl) rfl ?_
          refine xr_goto 33 (in_109 rfl) rfl ?_
          exact ih (1 : Int32) (a2071 + (1 : Int32)) m2143 h
        · replace h := (if_neg c2141).symm.trans h
          refine xr_ift 68 (in_109 rfl) rfl c2141 ?_
          refine xr_iinc (a2071 + (1 : Int32)) [some (xv_r 35), some (xv_i a2069), some (xv_i a2070), some (xv_i (a2071 + (1 : Int32)))] (in_109 rfl) rfl (xi_1 _) (nl_109 rfl) rfl ?_
          refine xr_goto 33 (in_109 rfl) rfl ?_
          exact ih a2070 (a2071 + (1 : Int32)) m2138 h
def mm_findSafe_l25 (F : Nat) (a2065 : Int32) (k : xm_S → Option (xm_S)) : Nat → Int32 → xm_S → Option (xm_S)
  | 0, _, _ => none
  | fu + 1, a2066, m2064 => if a2066 = 0 then k m2064 else mm_findSafe_l33 F a2065 (fun (x2145 : Int32) (m2146 : xm_S) => mm_findSafe_l25 F a2065 k fu x2145 m2146) F (0 : Int32) (0 : Int32) m2064
theorem mm_findSafe_l25_ok {xt : Nat → Nat × (Nat → Int32)} (n d : Nat) {F : Nat} {a2065 : Int32} {k : xm_S → Option (xm_S)} {m' : xm_S} 
    (hk : ∀ (m : xm_S), k m = some m' → xm_Run pg xt (d + 3) 109 0 0 (xQ_v (sh n) m') 77 [some (xv_r 35), none, none, none] [] (xq_2 (sh n) m) 0 0) :
    ∀ (fu : Nat) (a2066 : Int32) (m2064 : xm_S), mm_findSafe_l25 F a2065 k fu a2066 m2064 = some m' → xm_Run pg xt (d + 3) 109 0 0 (xQ_v (sh n) m') 25 [some (xv_r 35), some (xv_i a2065), some (xv_i a2066), none] [] (xq_2 (sh n) m2064) 0 0 := by
  intro fu
  induction fu with
  | zero => intro a2066 m2064 h; cases h
  | succ fu ih =>
    intro a2066 m2064 h
    rw [mm_findSafe_l25] at h
    refine xr_iload_n (in_109 rfl) rfl ?_
    by_cases c2067 : a2066 = 0
    · replace h := (if_pos c2067).symm.trans h
      refine xr_ift 77 (in_109 rfl) rfl c2067 ?_
      refine xr_forget (loc' := [some (xv_r 35), none, none, none]) (xl_s (xl_o (xl_o (xl_o xl_n)))) ?_
      exact hk m2064 h
    · replace h := (if_neg c2067).symm.trans h
      refine xr_iff 77 (in_109 rfl) rfl c2067 ?_
      refine xr_iconst_ _ (in_109 rfl) (show _ = (0 : Int32) by decide) ?_
      refine xr_istore_n [some (xv_r 35), some (xv_i a2065), some (xv_i (0 : Int32)), none] (in_109 rfl) (nl_109 rfl) rfl ?_
      refine xr_iconst_ _ (in_109 rfl) (show _ = (0 : Int32) by decide) ?_
      refine xr_istore_n [some (xv_r 35), some (xv_i a2065), some (xv_i (0 : Int32)), some (xv_i (0 : Int32))] (in_109 rfl) (nl_109 rfl) rfl ?_
      refine mm_findSafe_l33_ok n d (fun x2145 m2146 h => ?_) F (0 : Int32) (0 : Int32) m2064 h
      refine xr_goto 25 (in_109 rfl) rfl ?_
      exact ih x2145 m2146 h
def mm_findSafe_l84 (F : Nat) (k : xm_S → Option (xm_S)) : Nat → Int32 → xm_S → Option (xm_S)
  | 0, _, _ => none
  | fu + 1, a2151, m2150 => if (m2150.1 35 18) ≤ a2151 then k m2150 else xg_n a2151 100 (if (m2150.1 52 a2151.toNatClampNeg) = 0 then xs_m (xw_i m2150 35 22 ((m2150.1 35 22) + (0 : Int32))) fun m2155 => mm_findSafe_l84 F k fu (a2151 + (1 : Int32)) m2155 else xs_m (xw_i m2150 35 22 ((m2150.1 35 22) + (1 : Int32))) fun m2157 => mm_findSafe_l84 F k fu (a2151 + (1 : Int32)) m2157)
theorem mm_findSafe_l84_ok {xt : Nat → Nat × (Nat → Int32)} (n d : Nat) {F : Nat} {k : xm_S → Option (xm_S)} {m' : xm_S} 
    (hk : ∀ (m : xm_S), k m = some m' → xm_Run pg xt (d + 3) 109 0 0 (xQ_v (sh n) m') 121 [none, none, none, none] [] (xq_2 (sh n) m) 0 0) :
    ∀ (fu : Nat) (a2151 : Int32) (m2150 : xm_S), mm_findSafe_l84 F k fu a2151 m2150 = some m' → xm_Run pg xt (d + 3) 109 0 0 (xQ_v (sh n) m') 84 [some (xv_r 35), none, none, some (xv_i a2151)] [] (xq_2 (sh n) m2150) 0 0 := by
  intro fu
  induction fu with
  | zero => intro a2151 m2150 h; cases h
  | succ fu ih =>
    intro a2151 m2150 h
    rw [mm_findSafe_l84] at h
    refine xr_iload_n (in_109 rfl) rfl ?_
    refine xr_aload_n (in_109 rfl) rfl ?_
    refine xq_geti (in_109 rfl) (fo_109 rfl) (sh_35 n) rfl ?_
    by_cases c2152 : (m2150.1 35 18) ≤ a2151
    · replace h := (if_pos c2152).symm.trans h
      refine xr_ict 121 (in_109 rfl) rfl c2152 ?_
      refine xr_forget (loc' := [none, none, none, none]) (xl_o (xl_o (xl_o (xl_o xl_n)))) ?_
      exact hk m2150 h
    · replace h := (if_neg c2152).symm.trans h
      refine xr_icf 121 (in_109 rfl) rfl c2152 ?_
      refine xr_aload_n (in_109 rfl) rfl ?_
      refine xr_dup (in_109 rfl) rfl ?_
      refine xq_geti (in_109 rfl) (fo_109 rfl) (sh_35 n) rfl ?_
      refine xr_aload_n (in_109 rfl) rfl ?_
      refine xq_getr (in_109 rfl) (fo_109 rfl) (sh_35 n) rfl ?_
      refine xr_iload_n (in_109 rfl) rfl ?_
      obtain ⟨o2153, h⟩ := xg_e h
      refine xq_bald (in_109 rfl) (sh_52 n) o2153 ?_
      by_cases c2154 : (m2150.1 52 a2151.toNatClampNeg) = 0
      · replace h := (if_pos c2154).symm.trans h
        refine xr_ift 110 (in_109 rfl) rfl c2154 ?_
        refine xr_iconst_ _ (in_109 rfl) (show _ = (0 : Int32) by decide) ?_
        refine xr_iadd (in_109 rfl) ?_
        refine xq_put (in_109 rfl) (fo_109 rfl) (sh_35 n) rfl (Or.inl rfl) ?_
        obtain ⟨m2155, e2156, h⟩ := xs_e h
        rw [← e2156]
        clear e2156
        refine xr_iinc (a2151 + (1 : Int32)) [some (xv_r 35), none, none, some (xv_i (a2151 + (1 : Int32)))] (in_109 rfl) rfl (xi_1 _) (nl_109 rfl) rfl ?_
        refine xr_goto 84 (in_109 rfl) rfl ?_
        exact ih (a2151 + (1 : Int32)) m2155 h
      · replace h := (if_neg c2154).symm.trans h
        refine xr_iff 110 (in_109 rfl) rfl c2154 ?_
        refine xr_iconst_ _ (in_109 rfl) (show _ = (1 : Int32) by decide) ?_
        refine xr_goto 111 (in_109 rfl) rfl ?_
        refine xr_iadd (in_109 rfl) ?_
        refine xq_put (in_109 rfl) (fo_109 rfl) (sh_35 n) rfl (Or.inl rfl) ?_
        obtain ⟨m2157, e2158, h⟩ := xs_e h
        rw [← e2158]
        clear e2158
        refine xr_iinc (a2151 + (1 : Int32)) [some (xv_r 35), none, none, some (xv_i (a2151 + (1 : Int32)))] (in_109 rfl) rfl (xi_1 _) (nl_109 rfl) rfl ?_
        refine xr_goto 84 (in_109 rfl) rfl ?_
        exact ih (a2151 + (1 : Int32)) m2157 h
def mm_findSafe (F : Nat) (a1 : Int32) (m : xm_S) : Option (xm_S) := mm_findSafe_l2 F a1 (fun (m2063 : xm_S) => mm_findSafe_l25 F a1 (fun (m2147 : xm_S) => xs_m (xw_i m2147 35 22 (0 : Int32)) fun m2148 => mm_findSafe_l84 F (fun (m2159 : xm_S) => some m2159) F (0 : Int32) m2148) F (1 : Int32) m2063) F (0 : Int32) m
theorem mm_findSafe_ok {xt : Nat → Nat × (Nat → Int32)} (n d : Nat) {F : Nat} {a1 : Int32} {m m' : xm_S} (h : mm_findSafe F a1 m = some m') : xm_Run pg xt (d + 3) 109 0 0 (xQ_v (sh n) m') 0 [some (xv_r 35), some (xv_i a1), none, none] [] (xq_2 (sh n) m) 0 0 := by
  unfold mm_findSafe at h
  refine xr_iconst_ _ (in_109 rfl) (show _ = (0 : Int32) by decide) ?_
  refine xr_istore_n [some (xv_r 35), some (xv_i a1), some (xv_i (0 : Int32)), none] (in_109 rfl) (nl_109 rfl) rfl ?_
  refine mm_findSafe_l2_ok n d (fun m2063 h => ?_) F (0 : Int32) m h
  refine xr_iconst_ _ (in_109 rfl) (show _ = (1 : Int32) by decide) ?_
  refine xr_istore_n [some (xv_r 35), some (xv_i a1), some (xv_i (1 : Int32)), none] (in_109 rfl) (nl_109 rfl) rfl ?_
  refine mm_findSafe_l25_ok n d (fun m2147 h => ?_) F (1 : Int32) m2063 h
  refine xr_aload_n (in_109 rfl) rfl ?_
  refine xr_iconst_ _ (in_109 rfl) (show _ = (0 : Int32) by decide) ?_
  refine xq_put (in_109 rfl) (fo_109 rfl) (sh_35 n) rfl (Or.inl rfl) ?_
  obtain ⟨m2148, e2149, h⟩ := xs_e h
  rw [← e2149]
  clear e2149
  refine xr_iconst_ _ (in_109 rfl) (show _ = (0 : Int32) by decide) ?_
  refine xr_istore_n [some (xv_r 35), none, none, some (xv_i (0 : Int32))] (in_109 rfl) (nl_109 rfl) rfl ?_
  refine mm_findSafe_l84_ok n d (fun m2159 h => ?_) F (0 : Int32) m2148 h
  obtain rfl := Option.some.inj h
  exact xr_vret (kd_109) (in_109 rfl) (Nat.le_refl _) (Nat.le_refl _) ⟨rfl, rfl⟩
def mm_numberOf (F : Nat) (a1 : Int32) (m : xm_S) : Option (Int32 × xm_S) := xg_n a1 100 (xj_j (fun (m2210 : xm_S) => xg_n a1 100 (some (m2210.1 53 a1.toNatClampNeg, m2210))) fun j2211 => if 0 ≤ (m.1 53 a1.toNatClampNeg) then j2211 m else xg_n a1 100 (xs_m (xw_i m 53 a1.toNatClampNeg (m.1 35 24)) fun m2217 => xg_n (m2217.1 35 24) 100 (xs_m (xw_i m2217 54 (m2217.1 35 24).toNatClampNeg a1) fun m2220 => xs_m (xw_i m2220 35 24 ((m2220.1 35 24) + (1 : Int32))) fun m2222 => j2211 m2222)))
theorem mm_numberOf_ok {xt : Nat → Nat × (Nat → Int32)} (n d : Nat) {F : Nat} {a1 : Int32} {m m' : xm_S} {r : Int32} (h : mm_numberOf F a1 m = some (r, m')) : xm_Run pg xt d 115 0 0 (xQ_i (sh n) r m') 0 [some (xv_r 35), some (xv_i a1)] [] (xq_2 (sh n) m) 0 0 := by
  unfold mm_numberOf at h
  refine xr_aload_n (in_115 rfl) rfl ?_
  refine xq_getr (in_115 rfl) (fo_115 rfl) (sh_35 n) rfl ?_
  refine xr_iload_n (in_115 rfl) rfl ?_
  obtain ⟨o2199, h⟩ := xg_e h
  refine xq_iald (in_115 rfl) (sh_53 n) o2199 ?_
  obtain ⟨j2211, e2212, h⟩ := xj_e h
  have q2213 : ∀ (m2210 : xm_S), j2211 m2210 = some (r, m') → xm_Run pg xt d 115 0 0 (xQ_i (sh n) r m') 39 [some (xv_r 35), some (xv_i a1)] [] (xq_2 (sh n) m2210) 0 0 := by
    intro m2210 h
    rw [e2212] at h
    refine xr_aload_n (in_115 rfl) rfl ?_
    refine xq_getr (in_115 rfl) (fo_115 rfl) (sh_35 n) rfl ?_
    refine xr_iload_n (in_115 rfl) rfl ?_
    obtain ⟨o2214, h⟩ := xg_e h
    refine xq_iald (in_115 rfl) (sh_53 n) o2214 ?_
    obtain ⟨rfl, rfl⟩ := Prod.mk.inj (Option.some.inj h)
    exact xr_iret (kd_115) (in_115 rfl) (Nat.le_refl _) (Nat.le_refl _) ⟨rfl, rfl⟩
  clear e2212
  by_cases c2215 : 0 ≤ (m.1 53 a1.toNatClampNeg)
  · replace h := (if_pos c2215).symm.trans h
    refine xr_ift 39 (in_115 rfl) rfl c2215 ?_
    exact q2213 m h
  · replace h := (if_neg c2215).symm.trans h
    refine xr_iff 39 (in_115 rfl) rfl c2215 ?_
    refine xr_aload_n (in_115 rfl) rfl ?_
    refine xq_getr (in_115 rfl) (fo_115 rfl) (sh_35 n) rfl ?_
    refine xr_iload_n (in_115 rfl) rfl ?_
    refine xr_aload_n (in_115 rfl) rfl ?_
    refine xq_geti (in_115 rfl) (fo_115 rfl) (sh_35 n) rfl ?_
    obtain ⟨o2216, h⟩ := xg_e h
    refine xq_iast (in_115 rfl) (sh_53 n) o2216 ?_
    obtain ⟨m2217, e2218, h⟩ := xs_e h
    rw [← e2218]
    clear e2218
    refine xr_aload_n (in_115 rfl) rfl ?_
    refine xq_getr (in_115 rfl) (fo_115 rfl) (sh_35 n) rfl ?_
    refine xr_aload_n (in_115 rfl) rfl ?_
    refine xq_geti (in_115 rfl) (fo_115 rfl) (sh_35 n) rfl ?_
    refine xr_iload_n (in_115 rfl) rfl ?_
    obtain ⟨o2219, h⟩ := xg_e h
    refine xq_iast (in_115 rfl) (sh_54 n) o2219 ?_
    obtain ⟨m2220, e2221, h⟩ := xs_e h
    rw [← e2221]
    clear e2221
    refine xr_aload_n (in_115 rfl) rfl ?_
    refine xr_dup (in_115 rfl) rfl ?_
    refine xq_geti (in_115 rfl) (fo_115 rfl) (sh_35 n) rfl ?_
    refine xr_iconst_ _ (in_115 rfl) (show _ = (1 : Int32) by decide) ?_
    refine xr_iadd (in_115 rfl) ?_
    refine xq_put (in_115 rfl) (fo_115 rfl) (sh_35 n) rfl (Or.inl rfl) ?_
    obtain ⟨m2222, e2223, h⟩ := xs_e h
    rw [← e2223]
    clear e2223
    exact q2213 m2222 h
