/-! Methods as functions, and that they run so (written by program). -/
def wd_placesWithBit_l4 (F : Nat) (a220 : Int32) (k : Int32 → xm_S → Option (Int32 × xm_S)) : Nat → Int32 → Int32 → xm_S → Option (Int32 × xm_S)
  | 0, _, _, _ => none
  | fu + 1, a221, a222, m219 => if (m219.1 7 3) ≤ a222 then k a221 m219 else xg_n a222 16 (wd_placesWithBit_l4 F a220 k fu (a221 ||| ((((m219.1 8 a222.toNatClampNeg) >>> (a220 &&& 31)) &&& (1 : Int32)) <<< (a222 &&& 31))) (a222 + (1 : Int32)) m219)
theorem wd_placesWithBit_l4_ok {xt : Nat → Nat × (Nat → Int32)} (n d : Nat) {F : Nat} {a220 : Int32} {k : Int32 → xm_S → Option (Int32 × xm_S)} {r : Int32} {m' : xm_S} 
    (hk : ∀ (z2 : Int32) (m : xm_S), k z2 m = some (r, m') → xm_Run pg xt d 27 0 0 (xQ_i (sh n) r m') 33 [none, none, some (xv_i z2), none] [] (xq_2 (sh n) m) 0 0) :
    ∀ (fu : Nat) (a221 : Int32) (a222 : Int32) (m219 : xm_S), wd_placesWithBit_l4 F a220 k fu a221 a222 m219 = some (r, m') → xm_Run pg xt d 27 0 0 (xQ_i (sh n) r m') 4 [some (xv_r 7), some (xv_i a220), some (xv_i a221), some (xv_i a222)] [] (xq_2 (sh n) m219) 0 0 := by
  intro fu
  induction fu with
  | zero => intro a221 a222 m219 h; cases h
  | succ fu ih =>
    intro a221 a222 m219 h
    rw [wd_placesWithBit_l4] at h
    refine xr_iload_n (in_27 rfl) rfl ?_
    refine xr_aload_n (in_27 rfl) rfl ?_
    refine xq_geti (in_27 rfl) (fo_27 rfl) (sh_7 n) rfl ?_
    by_cases c223 : (m219.1 7 3) ≤ a222
    · replace h := (if_pos c223).symm.trans h
      refine xr_ict 33 (in_27 rfl) rfl c223 ?_
      refine xr_forget (loc' := [none, none, some (xv_i a221), none]) (xl_o (xl_o (xl_s (xl_o xl_n)))) ?_
      exact hk a221 m219 h
    · replace h := (if_neg c223).symm.trans h
      refine xr_icf 33 (in_27 rfl) rfl c223 ?_
      refine xr_iload_n (in_27 rfl) rfl ?_
      refine xr_aload_n (in_27 rfl) rfl ?_
      refine xq_getr (in_27 rfl) (fo_27 rfl) (sh_7 n) rfl ?_
      refine xr_iload_n (in_27 rfl) rfl ?_
      obtain ⟨o224, h⟩ := xg_e h
      refine xq_iald (in_27 rfl) (sh_8 n) o224 ?_
      refine xr_iload_n (in_27 rfl) rfl ?_
      refine xr_ishr (in_27 rfl) ?_
      refine xr_iconst_ _ (in_27 rfl) (show _ = (1 : Int32) by decide) ?_
      refine xr_iand (in_27 rfl) ?_
      refine xr_iload_n (in_27 rfl) rfl ?_
      refine xr_ishl (in_27 rfl) ?_
      refine xr_ior (in_27 rfl) ?_
      refine xr_istore_n [some (xv_r 7), some (xv_i a220), some (xv_i (a221 ||| ((((m219.1 8 a222.toNatClampNeg) >>> (a220 &&& 31)) &&& (1 : Int32)) <<< (a222 &&& 31)))), some (xv_i a222)] (in_27 rfl) (nl_27 rfl) rfl ?_
      refine xr_iinc (a222 + (1 : Int32)) [some (xv_r 7), some (xv_i a220), some (xv_i (a221 ||| ((((m219.1 8 a222.toNatClampNeg) >>> (a220 &&& 31)) &&& (1 : Int32)) <<< (a222 &&& 31)))), some (xv_i (a222 + (1 : Int32)))] (in_27 rfl) rfl (xi_1 _) (nl_27 rfl) rfl ?_
      refine xr_goto 4 (in_27 rfl) rfl ?_
      exact ih (a221 ||| ((((m219.1 8 a222.toNatClampNeg) >>> (a220 &&& 31)) &&& (1 : Int32)) <<< (a222 &&& 31))) (a222 + (1 : Int32)) m219 h
def wd_placesWithBit (F : Nat) (a1 : Int32) (m : xm_S) : Option (Int32 × xm_S) := wd_placesWithBit_l4 F a1 (fun (x225 : Int32) (m226 : xm_S) => some (x225, m226)) F (0 : Int32) (0 : Int32) m
theorem wd_placesWithBit_ok {xt : Nat → Nat × (Nat → Int32)} (n d : Nat) {F : Nat} {a1 : Int32} {m m' : xm_S} {r : Int32} (h : wd_placesWithBit F a1 m = some (r, m')) : xm_Run pg xt d 27 0 0 (xQ_i (sh n) r m') 0 [some (xv_r 7), some (xv_i a1), none, none] [] (xq_2 (sh n) m) 0 0 := by
  unfold wd_placesWithBit at h
  refine xr_iconst_ _ (in_27 rfl) (show _ = (0 : Int32) by decide) ?_
  refine xr_istore_n [some (xv_r 7), some (xv_i a1), some (xv_i (0 : Int32)), none] (in_27 rfl) (nl_27 rfl) rfl ?_
  refine xr_iconst_ _ (in_27 rfl) (show _ = (0 : Int32) by decide) ?_
  refine xr_istore_n [some (xv_r 7), some (xv_i a1), some (xv_i (0 : Int32)), some (xv_i (0 : Int32))] (in_27 rfl) (nl_27 rfl) rfl ?_
  refine wd_placesWithBit_l4_ok n d (fun x225 m226 h => ?_) F (0 : Int32) (0 : Int32) m h
  refine xr_iload_n (in_27 rfl) rfl ?_
  obtain ⟨rfl, rfl⟩ := Prod.mk.inj (Option.some.inj h)
  exact xr_iret (kd_27) (in_27 rfl) (Nat.le_refl _) (Nat.le_refl _) ⟨rfl, rfl⟩
def wd_placesAhead (a1 : Int32) (m : xm_S) : Int32 := (a1 >>> ((1 : Int32) &&& 31)) ||| (((a1 >>> ((m.1 7 4) &&& 31)) &&& (1 : Int32)) <<< (((m.1 7 3) - (1 : Int32)) &&& 31))
theorem wd_placesAhead_ok {xt : Nat → Nat × (Nat → Int32)} (n d : Nat) {a1 : Int32} {m : xm_S} {r : Int32} (h : wd_placesAhead a1 m = r) : xm_Run pg xt d 28 0 0 (xQ_i (sh n) r m) 0 [some (xv_r 7), some (xv_i a1)] [] (xq_2 (sh n) m) 0 0 := by
  unfold wd_placesAhead at h
  refine xr_iload_n (in_28 rfl) rfl ?_
  refine xr_iconst_ _ (in_28 rfl) (show _ = (1 : Int32) by decide) ?_
  refine xr_ishr (in_28 rfl) ?_
  refine xr_iload_n (in_28 rfl) rfl ?_
  refine xr_aload_n (in_28 rfl) rfl ?_
  refine xq_geti (in_28 rfl) (fo_28 rfl) (sh_7 n) rfl ?_
  refine xr_ishr (in_28 rfl) ?_
  refine xr_iconst_ _ (in_28 rfl) (show _ = (1 : Int32) by decide) ?_
  refine xr_iand (in_28 rfl) ?_
  refine xr_aload_n (in_28 rfl) rfl ?_
  refine xq_geti (in_28 rfl) (fo_28 rfl) (sh_7 n) rfl ?_
  refine xr_iconst_ _ (in_28 rfl) (show _ = (1 : Int32) by decide) ?_
  refine xr_isub (in_28 rfl) ?_
  refine xr_ishl (in_28 rfl) ?_
  refine xr_ior (in_28 rfl) ?_
  subst h
  exact xr_iret (kd_28) (in_28 rfl) (Nat.le_refl _) (Nat.le_refl _) ⟨rfl, rfl⟩
def wd_placesOfUntil_l5 (F : Nat) (a248 : Int32) (a249 : Int32) (k : Int32 → xm_S → Option (Int32 × xm_S)) : Nat → Int32 → Int32 → xm_S → Option (Int32 × xm_S)
  | 0, _, _, _ => none
  | fu + 1, a250, a251, m247 => if (m247.1 7 3) ≤ a251 then k a250 m247 else wd_placesOfUntil_l5 F a248 a249 k fu (a249 ||| (a248 &&& (wd_placesAhead a250 m247))) (a251 + (1 : Int32)) m247
theorem wd_placesOfUntil_l5_ok {xt : Nat → Nat × (Nat → Int32)} (n d : Nat) {F : Nat} {a248 : Int32} {a249 : Int32} {k : Int32 → xm_S → Option (Int32 × xm_S)} {r : Int32} {m' : xm_S} 
    (hk : ∀ (z3 : Int32) (m : xm_S), k z3 m = some (r, m') → xm_Run pg xt (d + 1) 29 0 0 (xQ_i (sh n) r m') 30 [none, none, none, some (xv_i z3), none] [] (xq_2 (sh n) m) 0 0) :
    ∀ (fu : Nat) (a250 : Int32) (a251 : Int32) (m247 : xm_S), wd_placesOfUntil_l5 F a248 a249 k fu a250 a251 m247 = some (r, m') → xm_Run pg xt (d + 1) 29 0 0 (xQ_i (sh n) r m') 5 [some (xv_r 7), some (xv_i a248), some (xv_i a249), some (xv_i a250), some (xv_i a251)] [] (xq_2 (sh n) m247) 0 0 := by
  intro fu
  induction fu with
  | zero => intro a250 a251 m247 h; cases h
  | succ fu ih =>
    intro a250 a251 m247 h
    rw [wd_placesOfUntil_l5] at h
    refine xr_iload (in_29 rfl) rfl ?_
    refine xr_aload_n (in_29 rfl) rfl ?_
    refine xq_geti (in_29 rfl) (fo_29 rfl) (sh_7 n) rfl ?_
    by_cases c252 : (m247.1 7 3) ≤ a251
    · replace h := (if_pos c252).symm.trans h
      refine xr_ict 30 (in_29 rfl) rfl c252 ?_
      refine xr_forget (loc' := [none, none, none, some (xv_i a250), none]) (xl_o (xl_o (xl_o (xl_s (xl_o xl_n))))) ?_
      exact hk a250 m247 h
    · replace h := (if_neg c252).symm.trans h
      refine xr_icf 30 (in_29 rfl) rfl c252 ?_
      refine xr_iload_n (in_29 rfl) rfl ?_
      refine xr_iload_n (in_29 rfl) rfl ?_
      refine xr_aload_n (in_29 rfl) rfl ?_
      refine xr_iload_n (in_29 rfl) rfl ?_
      refine xq_calla [xv_r 7, xv_i a250] [xv_i a248, xv_i a249] [some (xv_r 7), some (xv_i a250)] (xk_V (in_29 rfl) (sh_7 n)) (cl_29 rfl) rfl rfl rfl rfl (wd_placesAhead_ok n d rfl) ?_
      refine xr_iand (in_29 rfl) ?_
      refine xr_ior (in_29 rfl) ?_
      refine xr_istore_n [some (xv_r 7), some (xv_i a248), some (xv_i a249), some (xv_i (a249 ||| (a248 &&& (wd_placesAhead a250 m247)))), some (xv_i a251)] (in_29 rfl) (nl_29 rfl) rfl ?_
      refine xr_iinc (a251 + (1 : Int32)) [some (xv_r 7), some (xv_i a248), some (xv_i a249), some (xv_i (a249 ||| (a248 &&& (wd_placesAhead a250 m247)))), some (xv_i (a251 + (1 : Int32)))] (in_29 rfl) rfl (xi_1 _) (nl_29 rfl) rfl ?_
      refine xr_goto 5 (in_29 rfl) rfl ?_
      exact ih (a249 ||| (a248 &&& (wd_placesAhead a250 m247))) (a251 + (1 : Int32)) m247 h
def wd_placesOfUntil (F : Nat) (a1 : Int32) (a2 : Int32) (m : xm_S) : Option (Int32 × xm_S) := wd_placesOfUntil_l5 F a1 a2 (fun (x253 : Int32) (m254 : xm_S) => some (x253, m254)) F a2 (0 : Int32) m
theorem wd_placesOfUntil_ok {xt : Nat → Nat × (Nat → Int32)} (n d : Nat) {F : Nat} {a1 : Int32} {a2 : Int32} {m m' : xm_S} {r : Int32} (h : wd_placesOfUntil F a1 a2 m = some (r, m')) : xm_Run pg xt (d + 1) 29 0 0 (xQ_i (sh n) r m') 0 [some (xv_r 7), some (xv_i a1), some (xv_i a2), none, none] [] (xq_2 (sh n) m) 0 0 := by
  unfold wd_placesOfUntil at h
  refine xr_iload_n (in_29 rfl) rfl ?_
  refine xr_istore_n [some (xv_r 7), some (xv_i a1), some (xv_i a2), some (xv_i a2), none] (in_29 rfl) (nl_29 rfl) rfl ?_
  refine xr_iconst_ _ (in_29 rfl) (show _ = (0 : Int32) by decide) ?_
  refine xr_istore [some (xv_r 7), some (xv_i a1), some (xv_i a2), some (xv_i a2), some (xv_i (0 : Int32))] (in_29 rfl) (nl_29 rfl) rfl ?_
  refine wd_placesOfUntil_l5_ok n d (fun x253 m254 h => ?_) F a2 (0 : Int32) m h
  refine xr_iload_n (in_29 rfl) rfl ?_
  obtain ⟨rfl, rfl⟩ := Prod.mk.inj (Option.some.inj h)
  exact xr_iret (kd_29) (in_29 rfl) (Nat.le_refl _) (Nat.le_refl _) ⟨rfl, rfl⟩
def wd_placesOfRelease_l5 (F : Nat) (a263 : Int32) (a264 : Int32) (k : Int32 → xm_S → Option (Int32 × xm_S)) : Nat → Int32 → Int32 → xm_S → Option (Int32 × xm_S)
  | 0, _, _, _ => none
  | fu + 1, a265, a266, m262 => if (m262.1 7 3) ≤ a266 then k a265 m262 else wd_placesOfRelease_l5 F a263 a264 k fu (a264 &&& (a263 ||| (wd_placesAhead a265 m262))) (a266 + (1 : Int32)) m262
theorem wd_placesOfRelease_l5_ok {xt : Nat → Nat × (Nat → Int32)} (n d : Nat) {F : Nat} {a263 : Int32} {a264 : Int32} {k : Int32 → xm_S → Option (Int32 × xm_S)} {r : Int32} {m' : xm_S} 
    (hk : ∀ (z3 : Int32) (m : xm_S), k z3 m = some (r, m') → xm_Run pg xt (d + 1) 30 0 0 (xQ_i (sh n) r m') 30 [none, none, none, some (xv_i z3), none] [] (xq_2 (sh n) m) 0 0) :
    ∀ (fu : Nat) (a265 : Int32) (a266 : Int32) (m262 : xm_S), wd_placesOfRelease_l5 F a263 a264 k fu a265 a266 m262 = some (r, m') → xm_Run pg xt (d + 1) 30 0 0 (xQ_i (sh n) r m') 5 [some (xv_r 7), some (xv_i a263), some (xv_i a264), some (xv_i a265), some (xv_i a266)] [] (xq_2 (sh n) m262) 0 0 := by
  intro fu
  induction fu with
  | zero => intro a265 a266 m262 h; cases h
  | succ fu ih =>
    intro a265 a266 m262 h
    rw [wd_placesOfRelease_l5] at h
    refine xr_iload (in_30 rfl) rfl ?_
    refine xr_aload_n (in_30 rfl) rfl ?_
    refine xq_geti (in_30 rfl) (fo_30 rfl) (sh_7 n) rfl ?_
    by_cases c267 : (m262.1 7 3) ≤ a266
    · replace h := (if_pos c267).symm.trans h
      refine xr_ict 30 (in_30 rfl) rfl c267 ?_
      refine xr_forget (loc' := [none, none, none, some (xv_i a265), none]) (xl_o (xl_o (xl_o (xl_s (xl_o xl_n))))) ?_
      exact hk a265 m262 h
    · replace h := (if_neg c267).symm.trans h
      refine xr_icf 30 (in_30 rfl) rfl c267 ?_
      refine xr_iload_n (in_30 rfl) rfl ?_
      refine xr_iload_n (in_30 rfl) rfl ?_
      refine xr_aload_n (in_30 rfl) rfl ?_
      refine xr_iload_n (in_30 rfl) rfl ?_
      refine xq_calla [xv_r 7, xv_i a265] [xv_i a263, xv_i a264] [some (xv_r 7), some (xv_i a265)] (xk_V (in_30 rfl) (sh_7 n)) (cl_30 rfl) rfl rfl rfl rfl (wd_placesAhead_ok n d rfl) ?_
      refine xr_ior (in_30 rfl) ?_
      refine xr_iand (in_30 rfl) ?_
      refine xr_istore_n [some (xv_r 7), some (xv_i a263), some (xv_i a264), some (xv_i (a264 &&& (a263 ||| (wd_placesAhead a265 m262)))), some (xv_i a266)] (in_30 rfl) (nl_30 rfl) rfl ?_
      refine xr_iinc (a266 + (1 : Int32)) [some (xv_r 7), some (xv_i a263), some (xv_i a264), some (xv_i (a264 &&& (a263 ||| (wd_placesAhead a265 m262)))), some (xv_i (a266 + (1 : Int32)))] (in_30 rfl) rfl (xi_1 _) (nl_30 rfl) rfl ?_
      refine xr_goto 5 (in_30 rfl) rfl ?_
      exact ih (a264 &&& (a263 ||| (wd_placesAhead a265 m262))) (a266 + (1 : Int32)) m262 h
def wd_placesOfRelease (F : Nat) (a1 : Int32) (a2 : Int32) (m : xm_S) : Option (Int32 × xm_S) := wd_placesOfRelease_l5 F a1 a2 (fun (x268 : Int32) (m269 : xm_S) => some (x268, m269)) F a2 (0 : Int32) m
theorem wd_placesOfRelease_ok {xt : Nat → Nat × (Nat → Int32)} (n d : Nat) {F : Nat} {a1 : Int32} {a2 : Int32} {m m' : xm_S} {r : Int32} (h : wd_placesOfRelease F a1 a2 m = some (r, m')) : xm_Run pg xt (d + 1) 30 0 0 (xQ_i (sh n) r m') 0 [some (xv_r 7), some (xv_i a1), some (xv_i a2), none, none] [] (xq_2 (sh n) m) 0 0 := by
  unfold wd_placesOfRelease at h
  refine xr_iload_n (in_30 rfl) rfl ?_
  refine xr_istore_n [some (xv_r 7), some (xv_i a1), some (xv_i a2), some (xv_i a2), none] (in_30 rfl) (nl_30 rfl) rfl ?_
  refine xr_iconst_ _ (in_30 rfl) (show _ = (0 : Int32) by decide) ?_
  refine xr_istore [some (xv_r 7), some (xv_i a1), some (xv_i a2), some (xv_i a2), some (xv_i (0 : Int32))] (in_30 rfl) (nl_30 rfl) rfl ?_
  refine wd_placesOfRelease_l5_ok n d (fun x268 m269 h => ?_) F a2 (0 : Int32) m h
  refine xr_iload_n (in_30 rfl) rfl ?_
  obtain ⟨rfl, rfl⟩ := Prod.mk.inj (Option.some.inj h)
  exact xr_iret (kd_30) (in_30 rfl) (Nat.le_refl _) (Nat.le_refl _) ⟨rfl, rfl⟩
def wd_placesOf (F : Nat) (a1 : Int32) (m : xm_S) : Option (Int32 × xm_S) := xg_n a1 28 (xg_n a1 28 (xg_n a1 28 (if (m.1 2 a1.toNatClampNeg) = (0 : Int32) then some (wd_everywhere m, m) else if (m.1 2 a1.toNatClampNeg) = (2 : Int32) then xc_m (wd_placesWithBit F (m.1 3 a1.toNatClampNeg) m) fun v227 m228 => some (v227, m228) else if (m.1 2 a1.toNatClampNeg) = (3 : Int32) then xc_m (wd_placesWithBit F (m.1 3 a1.toNatClampNeg) m) fun v232 m233 => some ((wd_everywhere m) &&& (v232 ^^^ (-1 : Int32)), m233) else if (m.1 2 a1.toNatClampNeg) = (4 : Int32) then xg_n (m.1 3 a1.toNatClampNeg) 28 (xg_n (m.1 4 a1.toNatClampNeg) 28 (some ((m.1 9 (m.1 3 a1.toNatClampNeg).toNatClampNeg) &&& (m.1 9 (m.1 4 a1.toNatClampNeg).toNatClampNeg), m))) else if (m.1 2 a1.toNatClampNeg) = (5 : Int32) then xg_n (m.1 3 a1.toNatClampNeg) 28 (xg_n (m.1 4 a1.toNatClampNeg) 28 (some ((m.1 9 (m.1 3 a1.toNatClampNeg).toNatClampNeg) ||| (m.1 9 (m.1 4 a1.toNatClampNeg).toNatClampNeg), m))) else if (m.1 2 a1.toNatClampNeg) = (6 : Int32) then xg_n (m.1 3 a1.toNatClampNeg) 28 (some (wd_placesAhead (m.1 9 (m.1 3 a1.toNatClampNeg).toNatClampNeg) m, m)) else if (m.1 2 a1.toNatClampNeg) = (7 : Int32) then xg_n (m.1 3 a1.toNatClampNeg) 28 (xg_n (m.1 4 a1.toNatClampNeg) 28 (xc_m (wd_placesOfUntil F (m.1 9 (m.1 3 a1.toNatClampNeg).toNatClampNeg) (m.1 9 (m.1 4 a1.toNatClampNeg).toNatClampNeg) m) fun v255 m256 => some (v255, m256))) else if (m.1 2 a1.toNatClampNeg) = (8 : Int32) then xg_n (m.1 3 a1.toNatClampNeg) 28 (xg_n (m.1 4 a1.toNatClampNeg) 28 (xc_m (wd_placesOfRelease F (m.1 9 (m.1 3 a1.toNatClampNeg).toNatClampNeg) (m.1 9 (m.1 4 a1.toNatClampNeg).toNatClampNeg) m) fun v270 m271 => some (v270, m271))) else some ((0 : Int32), m))))
theorem wd_placesOf_ok {xt : Nat → Nat × (Nat → Int32)} (n d : Nat) {F : Nat} {a1 : Int32} {m m' : xm_S} {r : Int32} (h : wd_placesOf F a1 m = some (r, m')) : xm_Run pg xt (d + 2) 25 0 0 (xQ_i (sh n) r m') 0 [some (xv_r 7), some (xv_i a1), none, none] [] (xq_2 (sh n) m) 0 0 := by
  unfold wd_placesOf at h
  refine xr_aload_n (in_25 rfl) rfl ?_
  refine xq_getr (in_25 rfl) (fo_25 rfl) (sh_7 n) rfl ?_
  refine xq_getr (in_25 rfl) (fo_25 rfl) (sh_1 n) rfl ?_
  refine xr_iload_n (in_25 rfl) rfl ?_
  obtain ⟨o214, h⟩ := xg_e h
  refine xq_iald (in_25 rfl) (sh_3 n) o214 ?_
  refine xr_istore_n [some (xv_r 7), some (xv_i a1), some (xv_i (m.1 3 a1.toNatClampNeg)), none] (in_25 rfl) (nl_25 rfl) rfl ?_
  refine xr_aload_n (in_25 rfl) rfl ?_
  refine xq_getr (in_25 rfl) (fo_25 rfl) (sh_7 n) rfl ?_
  refine xq_getr (in_25 rfl) (fo_25 rfl) (sh_1 n) rfl ?_
  refine xr_iload_n (in_25 rfl) rfl ?_
  obtain ⟨o215, h⟩ := xg_e h
  refine xq_iald (in_25 rfl) (sh_4 n) o215 ?_
  refine xr_istore_n [some (xv_r 7), some (xv_i a1), some (xv_i (m.1 3 a1.toNatClampNeg)), some (xv_i (m.1 4 a1.toNatClampNeg))] (in_25 rfl) (nl_25 rfl) rfl ?_
  refine xr_aload_n (in_25 rfl) rfl ?_
  refine xq_getr (in_25 rfl) (fo_25 rfl) (sh_7 n) rfl ?_
  refine xq_getr (in_25 rfl) (fo_25 rfl) (sh_1 n) rfl ?_
  refine xr_iload_n (in_25 rfl) rfl ?_
  obtain ⟨o216, h⟩ := xg_e h
  refine xq_iald (in_25 rfl) (sh_2 n) o216 ?_
  by_cases c217 : (m.1 2 a1.toNatClampNeg) = (0 : Int32)
  · replace h := (if_pos c217).symm.trans h
    refine xr_swi 80 (in_25 rfl) (by rw [c217]; decide) (by rw [c217]; decide) (by rw [c217]; rfl) rfl ?_
    refine xr_aload_n (in_25 rfl) rfl ?_
    refine xq_calla [xv_r 7] [] [some (xv_r 7)] (xk_V (in_25 rfl) (sh_7 n)) (cl_25 rfl) rfl rfl rfl rfl (wd_everywhere_ok n (d + 1) rfl) ?_
    obtain ⟨rfl, rfl⟩ := Prod.mk.inj (Option.some.inj h)
    exact xr_iret (kd_25) (in_25 rfl) (Nat.le_refl _) (Nat.le_refl _) ⟨rfl, rfl⟩
  replace h := (if_neg c217).symm.trans h
  by_cases c218 : (m.1 2 a1.toNatClampNeg) = (2 : Int32)
  · replace h := (if_pos c218).symm.trans h
    refine xr_swi 85 (in_25 rfl) (by rw [c218]; decide) (by rw [c218]; decide) (by rw [c218]; rfl) rfl ?_
    refine xr_aload_n (in_25 rfl) rfl ?_
    refine xr_iload_n (in_25 rfl) rfl ?_
    obtain ⟨v227, m228, e229, h⟩ := xc_m_e h
    refine xq_calla [xv_r 7, xv_i (m.1 3 a1.toNatClampNeg)] [] [some (xv_r 7), some (xv_i (m.1 3 a1.toNatClampNeg)), none, none] (xk_V (in_25 rfl) (sh_7 n)) (cl_25 rfl) rfl rfl rfl rfl (wd_placesWithBit_ok n (d + 1) e229) ?_
    obtain ⟨rfl, rfl⟩ := Prod.mk.inj (Option.some.inj h)
    exact xr_iret (kd_25) (in_25 rfl) (Nat.le_refl _) (Nat.le_refl _) ⟨rfl, rfl⟩
  replace h := (if_neg c218).symm.trans h
  by_cases c231 : (m.1 2 a1.toNatClampNeg) = (3 : Int32)
  · replace h := (if_pos c231).symm.trans h
    refine xr_swi 91 (in_25 rfl) (by rw [c231]; decide) (by rw [c231]; decide) (by rw [c231]; rfl) rfl ?_
    refine xr_aload_n (in_25 rfl) rfl ?_
    refine xq_calla [xv_r 7] [] [some (xv_r 7)] (xk_V (in_25 rfl) (sh_7 n)) (cl_25 rfl) rfl rfl rfl rfl (wd_everywhere_ok n (d + 1) rfl) ?_
    refine xr_aload_n (in_25 rfl) rfl ?_
    refine xr_iload_n (in_25 rfl) rfl ?_
    obtain ⟨v232, m233, e234, h⟩ := xc_m_e h
    refine xq_calla [xv_r 7, xv_i (m.1 3 a1.toNatClampNeg)] [xv_i (wd_everywhere m)] [some (xv_r 7), some (xv_i (m.1 3 a1.toNatClampNeg)), none, none] (xk_V (in_25 rfl) (sh_7 n)) (cl_25 rfl) rfl rfl rfl rfl (wd_placesWithBit_ok n (d + 1) e234) ?_
    refine xr_iconst_ _ (in_25 rfl) (show _ = (-1 : Int32) by decide) ?_
    refine xr_ixor (in_25 rfl) ?_
    refine xr_iand (in_25 rfl) ?_
    obtain ⟨rfl, rfl⟩ := Prod.mk.inj (Option.some.inj h)
    exact xr_iret (kd_25) (in_25 rfl) (Nat.le_refl _) (Nat.le_refl _) ⟨rfl, rfl⟩
  replace h := (if_neg c231).symm.trans h
  by_cases c236 : (m.1 2 a1.toNatClampNeg) = (4 : Int32)
  · replace h := (if_pos c236).symm.trans h
    refine xr_swi 104 (in_25 rfl) (by rw [c236]; decide) (by rw [c236]; decide) (by rw [c236]; rfl) rfl ?_
    refine xr_aload_n (in_25 rfl) rfl ?_
    refine xq_getr (in_25 rfl) (fo_25 rfl) (sh_7 n) rfl ?_
    refine xr_iload_n (in_25 rfl) rfl ?_
    obtain ⟨o237, h⟩ := xg_e h
    refine xq_iald (in_25 rfl) (sh_9 n) o237 ?_
    refine xr_aload_n (in_25 rfl) rfl ?_
    refine xq_getr (in_25 rfl) (fo_25 rfl) (sh_7 n) rfl ?_
    refine xr_iload_n (in_25 rfl) rfl ?_
    obtain ⟨o238, h⟩ := xg_e h
    refine xq_iald (in_25 rfl) (sh_9 n) o238 ?_
    refine xr_iand (in_25 rfl) ?_
    obtain ⟨rfl, rfl⟩ := Prod.mk.inj (Option.some.inj h)
    exact xr_iret (kd_25) (in_25 rfl) (Nat.le_refl _) (Nat.le_refl _) ⟨rfl, rfl⟩
  replace h := (if_neg c236).symm.trans h
  by_cases c239 : (m.1 2 a1.toNatClampNeg) = (5 : Int32)
  · replace h := (if_pos c239).symm.trans h
    refine xr_swi 118 (in_25 rfl) (by rw [c239]; decide) (by rw [c239]; decide) (by rw [c239]; rfl) rfl ?_
    refine xr_aload_n (in_25 rfl) rfl ?_
    refine xq_getr (in_25 rfl) (fo_25 rfl) (sh_7 n) rfl ?_
    refine xr_iload_n (in_25 rfl) rfl ?_
    obtain ⟨o240, h⟩ := xg_e h
    refine xq_iald (in_25 rfl) (sh_9 n) o240 ?_
    refine xr_aload_n (in_25 rfl) rfl ?_
    refine xq_getr (in_25 rfl) (fo_25 rfl) (sh_7 n) rfl ?_
    refine xr_iload_n (in_25 rfl) rfl ?_
    obtain ⟨o241, h⟩ := xg_e h
    refine xq_iald (in_25 rfl) (sh_9 n) o241 ?_
    refine xr_ior (in_25 rfl) ?_
    obtain ⟨rfl, rfl⟩ := Prod.mk.inj (Option.some.inj h)
    exact xr_iret (kd_25) (in_25 rfl) (Nat.le_refl _) (Nat.le_refl _) ⟨rfl, rfl⟩
  replace h := (if_neg c239).symm.trans h
  by_cases c242 : (m.1 2 a1.toNatClampNeg) = (6 : Int32)
  · replace h := (if_pos c242).symm.trans h
    refine xr_swi 132 (in_25 rfl) (by rw [c242]; decide) (by rw [c242]; decide) (by rw [c242]; rfl) rfl ?_
    refine xr_aload_n (in_25 rfl) rfl ?_
    refine xr_aload_n (in_25 rfl) rfl ?_
    refine xq_getr (in_25 rfl) (fo_25 rfl) (sh_7 n) rfl ?_
    refine xr_iload_n (in_25 rfl) rfl ?_
    obtain ⟨o243, h⟩ := xg_e h
    refine xq_iald (in_25 rfl) (sh_9 n) o243 ?_
    refine xq_calla [xv_r 7, xv_i (m.1 9 (m.1 3 a1.toNatClampNeg).toNatClampNeg)] [] [some (xv_r 7), some (xv_i (m.1 9 (m.1 3 a1.toNatClampNeg).toNatClampNeg))] (xk_V (in_25 rfl) (sh_7 n)) (cl_25 rfl) rfl rfl rfl rfl (wd_placesAhead_ok n (d + 1) rfl) ?_
    obtain ⟨rfl, rfl⟩ := Prod.mk.inj (Option.some.inj h)
    exact xr_iret (kd_25) (in_25 rfl) (Nat.le_refl _) (Nat.le_refl _) ⟨rfl, rfl⟩
  replace h := (if_neg c242).symm.trans h
  by_cases c244 : (m.1 2 a1.toNatClampNeg) = (7 : Int32)
  · replace h := (if_pos c244).symm.trans h
    refine xr_swi 143 (in_25 rfl) (by rw [c244]; decide) (by rw [c244]; decide) (by rw [c244]; rfl) rfl ?_
    refine xr_aload_n (in_25 rfl) rfl ?_
    refine xr_aload_n (in_25 rfl) rfl ?_
    refine xq_getr (in_25 rfl) (fo_25 rfl) (sh_7 n) rfl ?_
    refine xr_iload_n (in_25 rfl) rfl ?_
    obtain ⟨o245, h⟩ := xg_e h
    refine xq_iald (in_25 rfl) (sh_9 n) o245 ?_
    refine xr_aload_n (in_25 rfl) rfl ?_
    refine xq_getr (in_25 rfl) (fo_25 rfl) (sh_7 n) rfl ?_
    refine xr_iload_n (in_25 rfl) rfl ?_
    obtain ⟨o246, h⟩ := xg_e h
    refine xq_iald (in_25 rfl) (sh_9 n) o246 ?_
    obtain ⟨v255, m256, e257, h⟩ := xc_m_e h
    refine xq_calla [xv_r 7, xv_i (m.1 9 (m.1 3 a1.toNatClampNeg).toNatClampNeg), xv_i (m.1 9 (m.1 4 a1.toNatClampNeg).toNatClampNeg)] [] [some (xv_r 7), some (xv_i (m.1 9 (m.1 3 a1.toNatClampNeg).toNatClampNeg)), some (xv_i (m.1 9 (m.1 4 a1.toNatClampNeg).toNatClampNeg)), none, none] (xk_V (in_25 rfl) (sh_7 n)) (cl_25 rfl) rfl rfl rfl rfl (wd_placesOfUntil_ok n d e257) ?_
    obtain ⟨rfl, rfl⟩ := Prod.mk.inj (Option.some.inj h)
    exact xr_iret (kd_25) (in_25 rfl) (Nat.le_refl _) (Nat.le_refl _) ⟨rfl, rfl⟩
  replace h := (if_neg c244).symm.trans h
  by_cases c259 : (m.1 2 a1.toNatClampNeg) = (8 : Int32)
  · replace h := (if_pos c259).symm.trans h
    refine xr_swi 160 (in_25 rfl) (by rw [c259]; decide) (by rw [c259]; decide) (by rw [c259]; rfl) rfl ?_
    refine xr_aload_n (in_25 rfl) rfl ?_
    refine xr_aload_n (in_25 rfl) rfl ?_
    refine xq_getr (in_25 rfl) (fo_25 rfl) (sh_7 n) rfl ?_
    refine xr_iload_n (in_25 rfl) rfl ?_
    obtain ⟨o260, h⟩ := xg_e h
    refine xq_iald (in_25 rfl) (sh_9 n) o260 ?_
    refine xr_aload_n (in_25 rfl) rfl ?_
    refine xq_getr (in_25 rfl) (fo_25 rfl) (sh_7 n) rfl ?_
    refine xr_iload_n (in_25 rfl) rfl ?_
    obtain ⟨o261, h⟩ := xg_e h
    refine xq_iald (in_25 rfl) (sh_9 n) o261 ?_
    obtain ⟨v270, m271, e272, h⟩ := xc_m_e h
    refine xq_calla [xv_r 7, xv_i (m.1 9 (m.1 3 a1.toNatClampNeg).toNatClampNeg), xv_i (m.1 9 (m.1 4 a1.toNatClampNeg).toNatClampNeg)] [] [some (xv_r 7), some (xv_i (m.1 9 (m.1 3 a1.toNatClampNeg).toNatClampNeg)), some (xv_i (m.1 9 (m.1 4 a1.toNatClampNeg).toNatClampNeg)), none, none] (xk_V (in_25 rfl) (sh_7 n)) (cl_25 rfl) rfl rfl rfl rfl (wd_placesOfRelease_ok n d e272) ?_
    obtain ⟨rfl, rfl⟩ := Prod.mk.inj (Option.some.inj h)
    exact xr_iret (kd_25) (in_25 rfl) (Nat.le_refl _) (Nat.le_refl _) ⟨rfl, rfl⟩
  replace h := (if_neg c259).symm.trans h
  have c217z : (m.1 2 a1.toNatClampNeg).toInt ≠ 0 := fun q => c217 (Int32.toInt_inj.mp (q.trans (by decide)))
  have c218z : (m.1 2 a1.toNatClampNeg).toInt ≠ 2 := fun q => c218 (Int32.toInt_inj.mp (q.trans (by decide)))
  have c231z : (m.1 2 a1.toNatClampNeg).toInt ≠ 3 := fun q => c231 (Int32.toInt_inj.mp (q.trans (by decide)))
  have c236z : (m.1 2 a1.toNatClampNeg).toInt ≠ 4 := fun q => c236 (Int32.toInt_inj.mp (q.trans (by decide)))
  have c239z : (m.1 2 a1.toNatClampNeg).toInt ≠ 5 := fun q => c239 (Int32.toInt_inj.mp (q.trans (by decide)))
  have c242z : (m.1 2 a1.toNatClampNeg).toInt ≠ 6 := fun q => c242 (Int32.toInt_inj.mp (q.trans (by decide)))
  have c244z : (m.1 2 a1.toNatClampNeg).toInt ≠ 7 := fun q => c244 (Int32.toInt_inj.mp (q.trans (by decide)))
  have c259z : (m.1 2 a1.toNatClampNeg).toInt ≠ 8 := fun q => c259 (Int32.toInt_inj.mp (q.trans (by decide)))
  by_cases c274 : (m.1 2 a1.toNatClampNeg) = (1 : Int32)
  · refine xr_swi 177 (in_25 rfl) (by rw [c274]; decide) (by rw [c274]; decide) (by rw [c274]; rfl) rfl ?_
    refine xr_iconst_ _ (in_25 rfl) (show _ = (0 : Int32) by decide) ?_
    obtain ⟨rfl, rfl⟩ := Prod.mk.inj (Option.some.inj h)
    exact xr_iret (kd_25) (in_25 rfl) (Nat.le_refl _) (Nat.le_refl _) ⟨rfl, rfl⟩
  have c274z : (m.1 2 a1.toNatClampNeg).toInt ≠ 1 := fun q => c274 (Int32.toInt_inj.mp (q.trans (by decide)))
  refine xr_swo 177 (in_25 rfl) (by omega) rfl ?_
  refine xr_iconst_ _ (in_25 rfl) (show _ = (0 : Int32) by decide) ?_
  obtain ⟨rfl, rfl⟩ := Prod.mk.inj (Option.some.inj h)
  exact xr_iret (kd_25) (in_25 rfl) (Nat.le_refl _) (Nat.le_refl _) ⟨rfl, rfl⟩
def wd_beginsWith_l2 (F : Nat) (a204 : Int32) (k : xm_S → Option (Int32 × xm_S)) : Nat → Int32 → xm_S → Option (Int32 × xm_S)
  | 0, _, _ => none
  | fu + 1, a205, m203 => if a204 < a205 then k m203 else xc_m (bk_isPart F a205 a204 m203) fun v209 m210 => if v209 = 0 then wd_beginsWith_l2 F a204 k fu (a205 + (1 : Int32)) m210 else xc_m (wd_placesOf F a205 m210) fun v275 m276 => xg_n a205 28 (xs_m (xw_i m276 9 a205.toNatClampNeg v275) fun m280 => wd_beginsWith_l2 F a204 k fu (a205 + (1 : Int32)) m280)
theorem wd_beginsWith_l2_ok {xt : Nat → Nat × (Nat → Int32)} (n d : Nat) {F : Nat} {a204 : Int32} {k : xm_S → Option (Int32 × xm_S)} {r : Int32} {m' : xm_S} 
    (hk : ∀ (m : xm_S), k m = some (r, m') → xm_Run pg xt (d + 3) 23 0 0 (xQ_i (sh n) r m') 36 [some (xv_r 7), some (xv_i a204), none] [] (xq_2 (sh n) m) 0 0) :
    ∀ (fu : Nat) (a205 : Int32) (m203 : xm_S), wd_beginsWith_l2 F a204 k fu a205 m203 = some (r, m') → xm_Run pg xt (d + 3) 23 0 0 (xQ_i (sh n) r m') 2 [some (xv_r 7), some (xv_i a204), some (xv_i a205)] [] (xq_2 (sh n) m203) 0 0 := by
  intro fu
  induction fu with
  | zero => intro a205 m203 h; cases h
  | succ fu ih =>
    intro a205 m203 h
    rw [wd_beginsWith_l2] at h
    refine xr_iload_n (in_23 rfl) rfl ?_
    refine xr_iload_n (in_23 rfl) rfl ?_
    by_cases c206 : a204 < a205
    · replace h := (if_pos c206).symm.trans h
      refine xr_ict 36 (in_23 rfl) rfl c206 ?_
      refine xr_forget (loc' := [some (xv_r 7), some (xv_i a204), none]) (xl_s (xl_s (xl_o xl_n))) ?_
      exact hk m203 h
    · replace h := (if_neg c206).symm.trans h
      refine xr_icf 36 (in_23 rfl) rfl c206 ?_
      refine xr_aload_n (in_23 rfl) rfl ?_
      refine xq_getr (in_23 rfl) (fo_23 rfl) (sh_7 n) rfl ?_
      refine xr_iload_n (in_23 rfl) rfl ?_
      refine xr_iload_n (in_23 rfl) rfl ?_
      obtain ⟨v209, m210, e211, h⟩ := xc_m_e h
      refine xq_calla [xv_r 1, xv_i a205, xv_i a204] [] [some (xv_r 1), some (xv_i a205), some (xv_i a204)] (xk_V (in_23 rfl) (sh_1 n)) (cl_23 rfl) rfl rfl rfl rfl (bk_isPart_ok n (d + 2) e211) ?_
      by_cases c213 : v209 = 0
      · replace h := (if_pos c213).symm.trans h
        refine xr_ift 30 (in_23 rfl) rfl c213 ?_
        refine xr_iinc (a205 + (1 : Int32)) [some (xv_r 7), some (xv_i a204), some (xv_i (a205 + (1 : Int32)))] (in_23 rfl) rfl (xi_1 _) (nl_23 rfl) rfl ?_
        refine xr_goto 2 (in_23 rfl) rfl ?_
        exact ih (a205 + (1 : Int32)) m210 h
      · replace h := (if_neg c213).symm.trans h
        refine xr_iff 30 (in_23 rfl) rfl c213 ?_
        refine xr_aload_n (in_23 rfl) rfl ?_
        refine xq_getr (in_23 rfl) (fo_23 rfl) (sh_7 n) rfl ?_
        refine xr_iload_n (in_23 rfl) rfl ?_
        refine xr_aload_n (in_23 rfl) rfl ?_
        refine xr_iload_n (in_23 rfl) rfl ?_
        obtain ⟨v275, m276, e277, h⟩ := xc_m_e h
        refine xq_calla [xv_r 7, xv_i a205] [xv_i a205, xv_r 9] [some (xv_r 7), some (xv_i a205), none, none] (xk_V (in_23 rfl) (sh_7 n)) (cl_23 rfl) rfl rfl rfl rfl (wd_placesOf_ok n d e277) ?_
        obtain ⟨o279, h⟩ := xg_e h
        refine xq_iast (in_23 rfl) (sh_9 n) o279 ?_
        obtain ⟨m280, e281, h⟩ := xs_e h
        rw [← e281]
        clear e281
        refine xr_iinc (a205 + (1 : Int32)) [some (xv_r 7), some (xv_i a204), some (xv_i (a205 + (1 : Int32)))] (in_23 rfl) rfl (xi_1 _) (nl_23 rfl) rfl ?_
        refine xr_goto 2 (in_23 rfl) rfl ?_
        exact ih (a205 + (1 : Int32)) m280 h
def wd_beginsWith (F : Nat) (a1 : Int32) (m : xm_S) : Option (Int32 × xm_S) := wd_beginsWith_l2 F a1 (fun (m282 : xm_S) => xg_n a1 28 (if ((m282.1 9 a1.toNatClampNeg) &&& (1 : Int32)) = 0 then some ((0 : Int32), m282) else some ((1 : Int32), m282))) F (0 : Int32) m
theorem wd_beginsWith_ok {xt : Nat → Nat × (Nat → Int32)} (n d : Nat) {F : Nat} {a1 : Int32} {m m' : xm_S} {r : Int32} (h : wd_beginsWith F a1 m = some (r, m')) : xm_Run pg xt (d + 3) 23 0 0 (xQ_i (sh n) r m') 0 [some (xv_r 7), some (xv_i a1), none] [] (xq_2 (sh n) m) 0 0 := by
  unfold wd_beginsWith at h
  refine xr_iconst_ _ (in_23 rfl) (show _ = (0 : Int32) by decide) ?_
  refine xr_istore_n [some (xv_r 7), some (xv_i a1), some (xv_i (0 : Int32))] (in_23 rfl) (nl_23 rfl) rfl ?_
  refine wd_beginsWith_l2_ok n d (fun m282 h => ?_) F (0 : Int32) m h
  refine xr_aload_n (in_23 rfl) rfl ?_
  refine xq_getr (in_23 rfl) (fo_23 rfl) (sh_7 n) rfl ?_
  refine xr_iload_n (in_23 rfl) rfl ?_
  obtain ⟨o283, h⟩ := xg_e h
  refine xq_iald (in_23 rfl) (sh_9 n) o283 ?_
  refine xr_iconst_ _ (in_23 rfl) (show _ = (1 : Int32) by decide) ?_
  refine xr_iand (in_23 rfl) ?_
  by_cases c284 : ((m282.1 9 a1.toNatClampNeg) &&& (1 : Int32)) = 0
  · replace h := (if_pos c284).symm.trans h
    refine xr_ift 51 (in_23 rfl) rfl c284 ?_
    refine xr_iconst_ _ (in_23 rfl) (show _ = (0 : Int32) by decide) ?_
    obtain ⟨rfl, rfl⟩ := Prod.mk.inj (Option.some.inj h)
    exact xr_zret (kd_23) (in_23 rfl) (by decide) (Nat.le_refl _) (Nat.le_refl _) ⟨rfl, rfl⟩
  · replace h := (if_neg c284).symm.trans h
    refine xr_iff 51 (in_23 rfl) rfl c284 ?_
    refine xr_iconst_ _ (in_23 rfl) (show _ = (1 : Int32) by decide) ?_
    refine xr_goto 52 (in_23 rfl) rfl ?_
    obtain ⟨rfl, rfl⟩ := Prod.mk.inj (Option.some.inj h)
    exact xr_zret (kd_23) (in_23 rfl) (by decide) (Nat.le_refl _) (Nat.le_refl _) ⟨rfl, rfl⟩
def mk_has (F : Nat) (a1 : Int32) (a2 : Int64) (a3 : Int32) (a4 : Int64) (a5 : Int32) (m : xm_S) : Option (Int32 × xm_S) := if (bk_knows a1 m) = 0 then some ((-1 : Int32), m) else if a3 < 0 then some ((-1 : Int32), m) else if (8 : Int32) < a3 then some ((-1 : Int32), m) else if a5 < (1 : Int32) then some ((-1 : Int32), m) else if a5 ≤ (8 : Int32) then xc_v (wd_write F a2 a3 a4 a5 m) fun m200 => xc_m (wd_beginsWith F a1 m200) fun v285 m286 => if v285 = 0 then some ((0 : Int32), m286) else some ((1 : Int32), m286) else some ((-1 : Int32), m)
theorem mk_has_ok {xt : Nat → Nat × (Nat → Int32)} (n d : Nat) {F : Nat} {a1 : Int32} {a2 : Int64} {a3 : Int32} {a4 : Int64} {a5 : Int32} {m m' : xm_S} {r : Int32} (h : mk_has F a1 a2 a3 a4 a5 m = some (r, m')) : xm_Run pg xt (d + 4) 21 0 0 (xQ_i (sh n) r m') 0 [some (xv_r 0), some (xv_i a1), some (xv_l a2), none, some (xv_i a3), some (xv_l a4), none, some (xv_i a5)] [] (xq_2 (sh n) m) 0 0 := by
  unfold mk_has at h
  refine xr_aload_n (in_21 rfl) rfl ?_
  refine xq_getr (in_21 rfl) (fo_21 rfl) (sh_0 n) rfl ?_
  refine xr_iload_n (in_21 rfl) rfl ?_
  refine xq_calla [xv_r 1, xv_i a1] [] [some (xv_r 1), some (xv_i a1)] (xk_V (in_21 rfl) (sh_1 n)) (cl_21 rfl) rfl rfl rfl rfl (bk_knows_ok n (d + 3) rfl) ?_
  by_cases c194 : (bk_knows a1 m) = 0
  · replace h := (if_pos c194).symm.trans h
    refine xr_ift 36 (in_21 rfl) rfl c194 ?_
    refine xr_iconst_ _ (in_21 rfl) (show _ = (-1 : Int32) by decide) ?_
    obtain ⟨rfl, rfl⟩ := Prod.mk.inj (Option.some.inj h)
    exact xr_iret (kd_21) (in_21 rfl) (Nat.le_refl _) (Nat.le_refl _) ⟨rfl, rfl⟩
  · replace h := (if_neg c194).symm.trans h
    refine xr_iff 36 (in_21 rfl) rfl c194 ?_
    refine xr_iload (in_21 rfl) rfl ?_
    by_cases c195 : a3 < 0
    · replace h := (if_pos c195).symm.trans h
      refine xr_ift 36 (in_21 rfl) rfl c195 ?_
      refine xr_iconst_ _ (in_21 rfl) (show _ = (-1 : Int32) by decide) ?_
      obtain ⟨rfl, rfl⟩ := Prod.mk.inj (Option.some.inj h)
      exact xr_iret (kd_21) (in_21 rfl) (Nat.le_refl _) (Nat.le_refl _) ⟨rfl, rfl⟩
    · replace h := (if_neg c195).symm.trans h
      refine xr_iff 36 (in_21 rfl) rfl c195 ?_
      refine xr_iload (in_21 rfl) rfl ?_
      refine xr_bipush_ _ (in_21 rfl) (show _ = (8 : Int32) by decide) ?_
      by_cases c196 : (8 : Int32) < a3
      · replace h := (if_pos c196).symm.trans h
        refine xr_ict 36 (in_21 rfl) rfl c196 ?_
        refine xr_iconst_ _ (in_21 rfl) (show _ = (-1 : Int32) by decide) ?_
        obtain ⟨rfl, rfl⟩ := Prod.mk.inj (Option.some.inj h)
        exact xr_iret (kd_21) (in_21 rfl) (Nat.le_refl _) (Nat.le_refl _) ⟨rfl, rfl⟩
      · replace h := (if_neg c196).symm.trans h
        refine xr_icf 36 (in_21 rfl) rfl c196 ?_
        refine xr_iload (in_21 rfl) rfl ?_
        refine xr_iconst_ _ (in_21 rfl) (show _ = (1 : Int32) by decide) ?_
        by_cases c197 : a5 < (1 : Int32)
        · replace h := (if_pos c197).symm.trans h
          refine xr_ict 36 (in_21 rfl) rfl c197 ?_
          refine xr_iconst_ _ (in_21 rfl) (show _ = (-1 : Int32) by decide) ?_
          obtain ⟨rfl, rfl⟩ := Prod.mk.inj (Option.some.inj h)
          exact xr_iret (kd_21) (in_21 rfl) (Nat.le_refl _) (Nat.le_refl _) ⟨rfl, rfl⟩
        · replace h := (if_neg c197).symm.trans h
          refine xr_icf 36 (in_21 rfl) rfl c197 ?_
          refine xr_iload (in_21 rfl) rfl ?_
          refine xr_bipush_ _ (in_21 rfl) (show _ = (8 : Int32) by decide) ?_
          by_cases c198 : a5 ≤ (8 : Int32)
          · replace h := (if_pos c198).symm.trans h
            refine xr_ict 38 (in_21 rfl) rfl c198 ?_
            refine xr_aload_n (in_21 rfl) rfl ?_
            refine xq_getr (in_21 rfl) (fo_21 rfl) (sh_0 n) rfl ?_
            refine xr_lload_n (in_21 rfl) rfl ?_
            refine xr_iload (in_21 rfl) rfl ?_
            refine xr_lload (in_21 rfl) rfl ?_
            refine xr_iload (in_21 rfl) rfl ?_
            obtain ⟨m200, e201, h⟩ := xc_v_e h
            refine xq_callv [xv_r 7, xv_l a2, xv_i a3, xv_l a4, xv_i a5] [] [some (xv_r 7), some (xv_l a2), none, some (xv_i a3), some (xv_l a4), none, some (xv_i a5), none] (xk_V (in_21 rfl) (sh_7 n)) (cl_21 rfl) rfl rfl rfl rfl (wd_write_ok n (d + 3) e201) ?_
            refine xr_aload_n (in_21 rfl) rfl ?_
            refine xq_getr (in_21 rfl) (fo_21 rfl) (sh_0 n) rfl ?_
            refine xr_iload_n (in_21 rfl) rfl ?_
            obtain ⟨v285, m286, e287, h⟩ := xc_m_e h
            refine xq_calla [xv_r 7, xv_i a1] [] [some (xv_r 7), some (xv_i a1), none] (xk_V (in_21 rfl) (sh_7 n)) (cl_21 rfl) rfl rfl rfl rfl (wd_beginsWith_ok n d e287) ?_
            by_cases c289 : v285 = 0
            · replace h := (if_pos c289).symm.trans h
              refine xr_ift 67 (in_21 rfl) rfl c289 ?_
              refine xr_iconst_ _ (in_21 rfl) (show _ = (0 : Int32) by decide) ?_
              obtain ⟨rfl, rfl⟩ := Prod.mk.inj (Option.some.inj h)
              exact xr_iret (kd_21) (in_21 rfl) (Nat.le_refl _) (Nat.le_refl _) ⟨rfl, rfl⟩
            · replace h := (if_neg c289).symm.trans h
              refine xr_iff 67 (in_21 rfl) rfl c289 ?_
              refine xr_iconst_ _ (in_21 rfl) (show _ = (1 : Int32) by decide) ?_
              refine xr_goto 68 (in_21 rfl) rfl ?_
              obtain ⟨rfl, rfl⟩ := Prod.mk.inj (Option.some.inj h)
              exact xr_iret (kd_21) (in_21 rfl) (Nat.le_refl _) (Nat.le_refl _) ⟨rfl, rfl⟩
          · replace h := (if_neg c198).symm.trans h
            refine xr_icf 38 (in_21 rfl) rfl c198 ?_
            refine xr_iconst_ _ (in_21 rfl) (show _ = (-1 : Int32) by decide) ?_
            obtain ⟨rfl, rfl⟩ := Prod.mk.inj (Option.some.inj h)
            exact xr_iret (kd_21) (in_21 rfl) (Nat.le_refl _) (Nat.le_refl _) ⟨rfl, rfl⟩
def wt_cell (a0 : Int32) (a1 : Int32) : Int32 := (a0 * (16 : Int32)) + a1
theorem wt_cell_ok {xt : Nat → Nat × (Nat → Int32)} (n d : Nat) {a0 : Int32} {a1 : Int32} {m : xm_S} {r : Int32} (h : wt_cell a0 a1 = r) : xm_Run pg xt d 33 0 0 (xQ_i (sh n) r m) 0 [some (xv_i a0), some (xv_i a1)] [] (xq_2 (sh n) m) 0 0 := by
  unfold wt_cell at h
  refine xr_iload_n (in_33 rfl) rfl ?_
  refine xr_bipush_ _ (in_33 rfl) (show _ = (16 : Int32) by decide) ?_
  refine xr_imul (in_33 rfl) ?_
  refine xr_iload_n (in_33 rfl) rfl ?_
  refine xr_iadd (in_33 rfl) ?_
  subst h
  exact xr_iret (kd_33) (in_33 rfl) (Nat.le_refl _) (Nat.le_refl _) ⟨rfl, rfl⟩
def wy_clear (F : Nat) (a0 : Nat) (m : xm_S) : Option (xm_S) := xs_m (xw_i m a0 1 (0 : Int32)) fun m309 => xs_m (xw_i m309 a0 2 (0 : Int32)) fun m311 => some m311
theorem wy_clear_ok {xt : Nat → Nat × (Nat → Int32)} (n d : Nat) {F : Nat} {a0 : Nat} {m m' : xm_S} (hw0 : xw_ok a0) (h : wy_clear F a0 m = some m') : xm_Run pg xt d 35 0 0 (xQ_v (sh n) m') 0 [some (xv_r a0)] [] (xq_2 (sh n) m) 0 0 := by
  unfold wy_clear at h
  refine xr_aload_n (in_35 rfl) rfl ?_
  refine xr_iconst_ _ (in_35 rfl) (show _ = (0 : Int32) by decide) ?_
  refine xq_put (in_35 rfl) (fo_35 rfl) (sh_w n hw0) rfl (Or.inl rfl) ?_
  obtain ⟨m309, e310, h⟩ := xs_e h
  rw [← e310]
  clear e310
  refine xr_aload_n (in_35 rfl) rfl ?_
  refine xr_iconst_ _ (in_35 rfl) (show _ = (0 : Int32) by decide) ?_
  refine xq_put (in_35 rfl) (fo_35 rfl) (sh_w n hw0) rfl (Or.inr ⟨rfl, by decide⟩) ?_
  obtain ⟨m311, e312, h⟩ := xs_e h
  rw [← e312]
  clear e312
  obtain rfl := Option.some.inj h
  exact xr_vret (kd_35) (in_35 rfl) (Nat.le_refl _) (Nat.le_refl _) ⟨rfl, rfl⟩
def wy_add_l8 (F : Nat) (a319 : Nat) (a321 : Int64) (k : Int32 → xm_S → Option (xm_S)) : Nat → Int32 → Int32 → xm_S → Option (xm_S)
  | 0, _, _, _ => none
  | fu + 1, a322, a323, m318 => if a323 ≤ a322 then k a322 m318 else xg_n ((a322 + a323) / (2 : Int32)) 60 (if 0 ≤ (lg_cmp (m318.2 (a319 + 1) ((a322 + a323) / (2 : Int32)).toNatClampNeg) a321) then wy_add_l8 F a319 a321 k fu a322 ((a322 + a323) / (2 : Int32)) m318 else wy_add_l8 F a319 a321 k fu (((a322 + a323) / (2 : Int32)) + (1 : Int32)) a323 m318)
theorem wy_add_l8_ok {xt : Nat → Nat × (Nat → Int32)} (n d : Nat) {F : Nat} {a319 : Nat} {a321 : Int64} {k : Int32 → xm_S → Option (xm_S)} {m' : xm_S} (w320 : xw_ok a319) 
    (hk : ∀ (z3 : Int32) (m : xm_S), k z3 m = some m' → xm_Run pg xt d 36 0 0 (xQ_v (sh n) m') 49 [some (xv_r a319), some (xv_l a321), none, some (xv_i z3), none, none] [] (xq_2 (sh n) m) 0 0) :
    ∀ (fu : Nat) (a322 : Int32) (a323 : Int32) (m318 : xm_S), wy_add_l8 F a319 a321 k fu a322 a323 m318 = some m' → xm_Run pg xt d 36 0 0 (xQ_v (sh n) m') 8 [some (xv_r a319), some (xv_l a321), none, some (xv_i a322), some (xv_i a323), none] [] (xq_2 (sh n) m318) 0 0 := by
  intro fu
  induction fu with
  | zero => intro a322 a323 m318 h; cases h
  | succ fu ih =>
    intro a322 a323 m318 h
    rw [wy_add_l8] at h
    refine xr_iload_n (in_36 rfl) rfl ?_
    refine xr_iload (in_36 rfl) rfl ?_
    by_cases c324 : a323 ≤ a322
    · replace h := (if_pos c324).symm.trans h
      refine xr_ict 49 (in_36 rfl) rfl c324 ?_
      refine xr_forget (loc' := [some (xv_r a319), some (xv_l a321), none, some (xv_i a322), none, none]) (xl_s (xl_s (xl_o (xl_s (xl_o (xl_o xl_n)))))) ?_
      exact hk a322 m318 h
    · replace h := (if_neg c324).symm.trans h
      refine xr_icf 49 (in_36 rfl) rfl c324 ?_
      refine xr_iload_n (in_36 rfl) rfl ?_
      refine xr_iload (in_36 rfl) rfl ?_
      refine xr_iadd (in_36 rfl) ?_
      refine xr_iconst_ _ (in_36 rfl) (show _ = (2 : Int32) by decide) ?_
      refine xr_idiv (in_36 rfl) (by decide) ?_
      refine xr_istore [some (xv_r a319), some (xv_l a321), none, some (xv_i a322), some (xv_i a323), some (xv_i ((a322 + a323) / (2 : Int32)))] (in_36 rfl) (nl_36 rfl) rfl ?_
      refine xr_aload_n (in_36 rfl) rfl ?_
      refine xq_getr (in_36 rfl) (fo_36 rfl) (sh_w n w320) rfl ?_
      refine xr_iload (in_36 rfl) rfl ?_
      obtain ⟨o325, h⟩ := xg_e h
      refine xq_lald (in_36 rfl) (sh_wr n w320) o325 ?_
      refine xr_lload_n (in_36 rfl) rfl ?_
      refine xr_lcmp (in_36 rfl) ?_
      by_cases c326 : 0 ≤ (lg_cmp (m318.2 (a319 + 1) ((a322 + a323) / (2 : Int32)).toNatClampNeg) a321)
      · replace h := (if_pos c326).symm.trans h
        refine xr_ift 42 (in_36 rfl) rfl c326 ?_
        refine xr_iload (in_36 rfl) rfl ?_
        refine xr_istore [some (xv_r a319), some (xv_l a321), none, some (xv_i a322), some (xv_i ((a322 + a323) / (2 : Int32))), some (xv_i ((a322 + a323) / (2 : Int32)))] (in_36 rfl) (nl_36 rfl) rfl ?_
        refine xr_goto 8 (in_36 rfl) rfl ?_
        refine xr_forget (loc' := [some (xv_r a319), some (xv_l a321), none, some (xv_i a322), some (xv_i ((a322 + a323) / (2 : Int32))), none]) (xl_s (xl_s (xl_o (xl_s (xl_s (xl_o xl_n)))))) ?_
        exact ih a322 ((a322 + a323) / (2 : Int32)) m318 h
      · replace h := (if_neg c326).symm.trans h
        refine xr_iff 42 (in_36 rfl) rfl c326 ?_
        refine xr_iload (in_36 rfl) rfl ?_
        refine xr_iconst_ _ (in_36 rfl) (show _ = (1 : Int32) by decide) ?_
        refine xr_iadd (in_36 rfl) ?_
        refine xr_istore_n [some (xv_r a319), some (xv_l a321), none, some (xv_i (((a322 + a323) / (2 : Int32)) + (1 : Int32))), some (xv_i a323), some (xv_i ((a322 + a323) / (2 : Int32)))] (in_36 rfl) (nl_36 rfl) rfl ?_
        refine xr_goto 46 (in_36 rfl) rfl ?_
        refine xr_goto 8 (in_36 rfl) rfl ?_
        refine xr_forget (loc' := [some (xv_r a319), some (xv_l a321), none, some (xv_i (((a322 + a323) / (2 : Int32)) + (1 : Int32))), some (xv_i a323), none]) (xl_s (xl_s (xl_o (xl_s (xl_s (xl_o xl_n)))))) ?_
        exact ih (((a322 + a323) / (2 : Int32)) + (1 : Int32)) a323 m318 h
def wy_add_l90 (F : Nat) (a339 : Nat) (a341 : Int64) (a342 : Int32) (k : xm_S → Option (xm_S)) : Nat → Int32 → xm_S → Option (xm_S)
  | 0, _, _ => none
  | fu + 1, a343, m338 => if a343 ≤ a342 then k m338 else xg_n (a343 - (1 : Int32)) 60 (xg_n a343 60 (xs_m (xw_l m338 (a339 + 1) a343.toNatClampNeg (m338.2 (a339 + 1) (a343 - (1 : Int32)).toNatClampNeg)) fun m347 => wy_add_l90 F a339 a341 a342 k fu (a343 + (-1 : Int32)) m347))
theorem wy_add_l90_ok {xt : Nat → Nat × (Nat → Int32)} (n d : Nat) {F : Nat} {a339 : Nat} {a341 : Int64} {a342 : Int32} {k : xm_S → Option (xm_S)} {m' : xm_S} (w340 : xw_ok a339) 
    (hk : ∀ (m : xm_S), k m = some m' → xm_Run pg xt d 36 0 0 (xQ_v (sh n) m') 118 [some (xv_r a339), some (xv_l a341), none, some (xv_i a342), none, none] [] (xq_2 (sh n) m) 0 0) :
    ∀ (fu : Nat) (a343 : Int32) (m338 : xm_S), wy_add_l90 F a339 a341 a342 k fu a343 m338 = some m' → xm_Run pg xt d 36 0 0 (xQ_v (sh n) m') 90 [some (xv_r a339), some (xv_l a341), none, some (xv_i a342), none, some (xv_i a343)] [] (xq_2 (sh n) m338) 0 0 := by
  intro fu
  induction fu with
  | zero => intro a343 m338 h; cases h
  | succ fu ih =>
    intro a343 m338 h
    rw [wy_add_l90] at h
    refine xr_iload (in_36 rfl) rfl ?_
    refine xr_iload_n (in_36 rfl) rfl ?_
    by_cases c344 : a343 ≤ a342
    · replace h := (if_pos c344).symm.trans h
      refine xr_ict 118 (in_36 rfl) rfl c344 ?_
      refine xr_forget (loc' := [some (xv_r a339), some (xv_l a341), none, some (xv_i a342), none, none]) (xl_s (xl_s (xl_o (xl_s (xl_o (xl_o xl_n)))))) ?_
      exact hk m338 h
    · replace h := (if_neg c344).symm.trans h
      refine xr_icf 118 (in_36 rfl) rfl c344 ?_
      refine xr_aload_n (in_36 rfl) rfl ?_
      refine xq_getr (in_36 rfl) (fo_36 rfl) (sh_w n w340) rfl ?_
      refine xr_iload (in_36 rfl) rfl ?_
      refine xr_aload_n (in_36 rfl) rfl ?_
      refine xq_getr (in_36 rfl) (fo_36 rfl) (sh_w n w340) rfl ?_
      refine xr_iload (in_36 rfl) rfl ?_
      refine xr_iconst_ _ (in_36 rfl) (show _ = (1 : Int32) by decide) ?_
      refine xr_isub (in_36 rfl) ?_
      obtain ⟨o345, h⟩ := xg_e h
      refine xq_lald (in_36 rfl) (sh_wr n w340) o345 ?_
      obtain ⟨o346, h⟩ := xg_e h
      refine xq_last (in_36 rfl) (sh_wr n w340) o346 ?_
      obtain ⟨m347, e348, h⟩ := xs_e h
      rw [← e348]
      clear e348
      refine xr_iinc (a343 + (-1 : Int32)) [some (xv_r a339), some (xv_l a341), none, some (xv_i a342), none, some (xv_i (a343 + (-1 : Int32)))] (in_36 rfl) rfl (xi_m1 _) (nl_36 rfl) rfl ?_
      refine xr_goto 90 (in_36 rfl) rfl ?_
      exact ih (a343 + (-1 : Int32)) m347 h
def wy_add (F : Nat) (a0 : Nat) (a1 : Int64) (m : xm_S) : Option (xm_S) := wy_add_l8 F a0 a1 (fun (x327 : Int32) (m328 : xm_S) => xj_j (fun (u333 : Unit) => if (m328.1 a0 1) < (60 : Int32) then wy_add_l90 F a0 a1 x327 (fun (m349 : xm_S) => xg_n x327 60 (xs_m (xw_l m349 (a0 + 1) x327.toNatClampNeg a1) fun m351 => xs_m (xw_i m351 a0 1 ((m351.1 a0 1) + (1 : Int32))) fun m353 => some m353)) F (m328.1 a0 1) m328 else xs_m (xw_i m328 a0 2 (1 : Int32)) fun m355 => some m355) fun j334 => if (m328.1 a0 1) ≤ x327 then j334 () else xg_n x327 60 (if (lg_cmp (m328.2 (a0 + 1) x327.toNatClampNeg) a1) = 0 then some m328 else j334 ())) F (0 : Int32) (m.1 a0 1) m
theorem wy_add_ok {xt : Nat → Nat × (Nat → Int32)} (n d : Nat) {F : Nat} {a0 : Nat} {a1 : Int64} {m m' : xm_S} (hw0 : xw_ok a0) (h : wy_add F a0 a1 m = some m') : xm_Run pg xt d 36 0 0 (xQ_v (sh n) m') 0 [some (xv_r a0), some (xv_l a1), none, none, none, none] [] (xq_2 (sh n) m) 0 0 := by
  unfold wy_add at h
  refine xr_iconst_ _ (in_36 rfl) (show _ = (0 : Int32) by decide) ?_
  refine xr_istore_n [some (xv_r a0), some (xv_l a1), none, some (xv_i (0 : Int32)), none, none] (in_36 rfl) (nl_36 rfl) rfl ?_
  refine xr_aload_n (in_36 rfl) rfl ?_
  refine xq_geti (in_36 rfl) (fo_36 rfl) (sh_w n hw0) rfl ?_
  refine xr_istore [some (xv_r a0), some (xv_l a1), none, some (xv_i (0 : Int32)), some (xv_i (m.1 a0 1)), none] (in_36 rfl) (nl_36 rfl) rfl ?_
  refine wy_add_l8_ok n d hw0 (fun x327 m328 h => ?_) F (0 : Int32) (m.1 a0 1) m h
  refine xr_iload_n (in_36 rfl) rfl ?_
  refine xr_aload_n (in_36 rfl) rfl ?_
  refine xq_geti (in_36 rfl) (fo_36 rfl) (sh_w n hw0) rfl ?_
  obtain ⟨j334, e335, h⟩ := xj_e h
  have q336 : ∀ (u333 : Unit), j334 u333 = some m' → xm_Run pg xt d 36 0 0 (xQ_v (sh n) m') 69 [some (xv_r a0), some (xv_l a1), none, some (xv_i x327), none, none] [] (xq_2 (sh n) m328) 0 0 := by
    intro u333 h
    rw [e335] at h
    refine xr_aload_n (in_36 rfl) rfl ?_
    refine xq_geti (in_36 rfl) (fo_36 rfl) (sh_w n hw0) rfl ?_
    refine xr_bipush_ _ (in_36 rfl) (show _ = (60 : Int32) by decide) ?_
    by_cases c337 : (m328.1 a0 1) < (60 : Int32)
    · replace h := (if_pos c337).symm.trans h
      refine xr_ict 84 (in_36 rfl) rfl c337 ?_
      refine xr_aload_n (in_36 rfl) rfl ?_
      refine xq_geti (in_36 rfl) (fo_36 rfl) (sh_w n hw0) rfl ?_
      refine xr_istore [some (xv_r a0), some (xv_l a1), none, some (xv_i x327), none, some (xv_i (m328.1 a0 1))] (in_36 rfl) (nl_36 rfl) rfl ?_
      refine wy_add_l90_ok n d hw0 (fun m349 h => ?_) F (m328.1 a0 1) m328 h
      refine xr_aload_n (in_36 rfl) rfl ?_
      refine xq_getr (in_36 rfl) (fo_36 rfl) (sh_w n hw0) rfl ?_
      refine xr_iload_n (in_36 rfl) rfl ?_
      refine xr_lload_n (in_36 rfl) rfl ?_
      obtain ⟨o350, h⟩ := xg_e h
      refine xq_last (in_36 rfl) (sh_wr n hw0) o350 ?_
      obtain ⟨m351, e352, h⟩ := xs_e h
      rw [← e352]
      clear e352
      refine xr_aload_n (in_36 rfl) rfl ?_
      refine xr_dup (in_36 rfl) rfl ?_
      refine xq_geti (in_36 rfl) (fo_36 rfl) (sh_w n hw0) rfl ?_
      refine xr_iconst_ _ (in_36 rfl) (show _ = (1 : Int32) by decide) ?_
      refine xr_iadd (in_36 rfl) ?_
      refine xq_put (in_36 rfl) (fo_36 rfl) (sh_w n hw0) rfl (Or.inl rfl) ?_
      obtain ⟨m353, e354, h⟩ := xs_e h
      rw [← e354]
      clear e354
      obtain rfl := Option.some.inj h
      exact xr_vret (kd_36) (in_36 rfl) (Nat.le_refl _) (Nat.le_refl _) ⟨rfl, rfl⟩
    · replace h := (if_neg c337).symm.trans h
      refine xr_icf 84 (in_36 rfl) rfl c337 ?_
      refine xr_aload_n (in_36 rfl) rfl ?_
      refine xr_iconst_ _ (in_36 rfl) (show _ = (1 : Int32) by decide) ?_
      refine xq_put (in_36 rfl) (fo_36 rfl) (sh_w n hw0) rfl (Or.inr ⟨rfl, by decide⟩) ?_
      obtain ⟨m355, e356, h⟩ := xs_e h
      rw [← e356]
      clear e356
      obtain rfl := Option.some.inj h
      exact xr_vret (kd_36) (in_36 rfl) (Nat.le_refl _) (Nat.le_refl _) ⟨rfl, rfl⟩
  clear e335
  by_cases c357 : (m328.1 a0 1) ≤ x327
  · replace h := (if_pos c357).symm.trans h
    refine xr_ict 69 (in_36 rfl) rfl c357 ?_
    exact q336 () h
  · replace h := (if_neg c357).symm.trans h
    refine xr_icf 69 (in_36 rfl) rfl c357 ?_
    refine xr_aload_n (in_36 rfl) rfl ?_
    refine xq_getr (in_36 rfl) (fo_36 rfl) (sh_w n hw0) rfl ?_
    refine xr_iload_n (in_36 rfl) rfl ?_
    obtain ⟨o358, h⟩ := xg_e h
    refine xq_lald (in_36 rfl) (sh_wr n hw0) o358 ?_
    refine xr_lload_n (in_36 rfl) rfl ?_
    refine xr_lcmp (in_36 rfl) ?_
    by_cases c359 : (lg_cmp (m328.2 (a0 + 1) x327.toNatClampNeg) a1) = 0
    · replace h := (if_pos c359).symm.trans h
      refine xr_iff 69 (in_36 rfl) rfl (fun q => q c359) ?_
      obtain rfl := Option.some.inj h
      exact xr_vret (kd_36) (in_36 rfl) (Nat.le_refl _) (Nat.le_refl _) ⟨rfl, rfl⟩
    · replace h := (if_neg c359).symm.trans h
      refine xr_ift 69 (in_36 rfl) rfl c359 ?_
      exact q336 () h
def wt_addEach_l10 (F : Nat) (n : Nat) (a392 : Nat) (a394 : Int64) (a395 : Int32) (k : xm_S → Option (xm_S)) : Nat → Int32 → xm_S → Option (xm_S)
  | 0, _, _ => none
  | fu + 1, a396, m391 => xg_n a395 448 (if (m391.1 12 a395.toNatClampNeg) ≤ a396 then k m391 else if (m391.1 a392 2) = 0 then xg_n a395 448 (xg_n ((m391.1 11 a395.toNatClampNeg) + a396) (xk_l n) (xc_v (wy_add F a392 ((m391.2 (xk_c n) ((m391.1 11 a395.toNatClampNeg) + a396).toNatClampNeg) ||| a394) m391) fun m403 => wt_addEach_l10 F n a392 a394 a395 k fu (a396 + (1 : Int32)) m403)) else k m391)
theorem wt_addEach_l10_ok {xt : Nat → Nat × (Nat → Int32)} (n d : Nat) {F : Nat} {a392 : Nat} {a394 : Int64} {a395 : Int32} {k : xm_S → Option (xm_S)} {m' : xm_S} (w393 : xw_ok a392) 
    (hk : ∀ (m : xm_S), k m = some m' → xm_Run pg xt (d + 1) 38 0 0 (xQ_v (sh n) m') 57 [none, none, none, none, none, none, none, none] [] (xq_2 (sh n) m) 0 0) :
    ∀ (fu : Nat) (a396 : Int32) (m391 : xm_S), wt_addEach_l10 F n a392 a394 a395 k fu a396 m391 = some m' → xm_Run pg xt (d + 1) 38 0 0 (xQ_v (sh n) m') 10 [some (xv_r 10), some (xv_r a392), none, none, some (xv_l a394), none, some (xv_i a395), some (xv_i a396)] [] (xq_2 (sh n) m391) 0 0 := by
  intro fu
  induction fu with
  | zero => intro a396 m391 h; cases h
  | succ fu ih =>
    intro a396 m391 h
    rw [wt_addEach_l10] at h
    refine xr_iload (in_38 rfl) rfl ?_
    refine xr_aload_n (in_38 rfl) rfl ?_
    refine xq_getr (in_38 rfl) (fo_38 rfl) (sh_10 n) rfl ?_
    refine xr_iload (in_38 rfl) rfl ?_
    obtain ⟨o397, h⟩ := xg_e h
    refine xq_iald (in_38 rfl) (sh_12 n) o397 ?_
    by_cases c398 : (m391.1 12 a395.toNatClampNeg) ≤ a396
    · replace h := (if_pos c398).symm.trans h
      refine xr_ict 57 (in_38 rfl) rfl c398 ?_
      refine xr_forget (loc' := [none, none, none, none, none, none, none, none]) (xl_o (xl_o (xl_o (xl_o (xl_o (xl_o (xl_o (xl_o xl_n)))))))) ?_
      exact hk m391 h
    · replace h := (if_neg c398).symm.trans h
      refine xr_icf 57 (in_38 rfl) rfl c398 ?_
      refine xr_aload_n (in_38 rfl) rfl ?_
      refine xq_geti (in_38 rfl) (fo_38 rfl) (sh_w n w393) rfl ?_
      by_cases c399 : (m391.1 a392 2) = 0
      · replace h := (if_pos c399).symm.trans h
        refine xr_iff 57 (in_38 rfl) rfl (fun q => q c399) ?_
        refine xr_aload_n (in_38 rfl) rfl ?_
        refine xr_aload_n (in_38 rfl) rfl ?_
        refine xq_getr (in_38 rfl) (fo_38 rfl) (sh_10 n) rfl ?_
        refine xr_aload_n (in_38 rfl) rfl ?_
        refine xq_getr (in_38 rfl) (fo_38 rfl) (sh_10 n) rfl ?_
        refine xr_iload (in_38 rfl) rfl ?_
        obtain ⟨o400, h⟩ := xg_e h
        refine xq_iald (in_38 rfl) (sh_11 n) o400 ?_
        refine xr_iload (in_38 rfl) rfl ?_
        refine xr_iadd (in_38 rfl) ?_
        obtain ⟨o401, h⟩ := xg_e h
        refine xq_lald (in_38 rfl) (sh_k n) o401 ?_
        refine xr_lload (in_38 rfl) rfl ?_
        refine xr_lor (in_38 rfl) ?_
        obtain ⟨m403, e404, h⟩ := xc_v_e h
        refine xq_callv [xv_r a392, xv_l ((m391.2 (xk_c n) ((m391.1 11 a395.toNatClampNeg) + a396).toNatClampNeg) ||| a394)] [] [some (xv_r a392), some (xv_l ((m391.2 (xk_c n) ((m391.1 11 a395.toNatClampNeg) + a396).toNatClampNeg) ||| a394)), none, none, none, none] (xk_V (in_38 rfl) (sh_w n w393)) (cl_38 rfl) rfl rfl rfl rfl (wy_add_ok n d w393 e404) ?_
        refine xr_iinc (a396 + (1 : Int32)) [some (xv_r 10), some (xv_r a392), none, none, some (xv_l a394), none, some (xv_i a395), some (xv_i (a396 + (1 : Int32)))] (in_38 rfl) rfl (xi_1 _) (nl_38 rfl) rfl ?_
        refine xr_goto 10 (in_38 rfl) rfl ?_
        exact ih (a396 + (1 : Int32)) m403 h
      · replace h := (if_neg c399).symm.trans h
        refine xr_ift 57 (in_38 rfl) rfl c399 ?_
        refine xr_forget (loc' := [none, none, none, none, none, none, none, none]) (xl_o (xl_o (xl_o (xl_o (xl_o (xl_o (xl_o (xl_o xl_n)))))))) ?_
        exact hk m391 h
def wt_addEach (F : Nat) (n : Nat) (a1 : Nat) (a2 : Int32) (a3 : Int32) (a4 : Int64) (m : xm_S) : Option (xm_S) := wt_addEach_l10 F n a1 a4 (wt_cell a2 a3) (fun (m406 : xm_S) => some m406) F (0 : Int32) m
theorem wt_addEach_ok {xt : Nat → Nat × (Nat → Int32)} (n d : Nat) {F : Nat} {a1 : Nat} {a2 : Int32} {a3 : Int32} {a4 : Int64} {m m' : xm_S} (hw1 : xw_ok a1) (h : wt_addEach F n a1 a2 a3 a4 m = some m') : xm_Run pg xt (d + 1) 38 0 0 (xQ_v (sh n) m') 0 [some (xv_r 10), some (xv_r a1), some (xv_i a2), some (xv_i a3), some (xv_l a4), none, none, none] [] (xq_2 (sh n) m) 0 0 := by
  unfold wt_addEach at h
  refine xr_iload_n (in_38 rfl) rfl ?_
  refine xr_iload_n (in_38 rfl) rfl ?_
  refine xq_calla [xv_i a2, xv_i a3] [] [some (xv_i a2), some (xv_i a3)] (xk_S (in_38 rfl)) (cl_38 rfl) rfl rfl rfl rfl (wt_cell_ok n d rfl) ?_
  refine xr_istore [some (xv_r 10), some (xv_r a1), some (xv_i a2), some (xv_i a3), some (xv_l a4), none, some (xv_i (wt_cell a2 a3)), none] (in_38 rfl) (nl_38 rfl) rfl ?_
  refine xr_iconst_ _ (in_38 rfl) (show _ = (0 : Int32) by decide) ?_
  refine xr_istore [some (xv_r 10), some (xv_r a1), some (xv_i a2), some (xv_i a3), some (xv_l a4), none, some (xv_i (wt_cell a2 a3)), some (xv_i (0 : Int32))] (in_38 rfl) (nl_38 rfl) rfl ?_
  refine xr_forget (loc' := [some (xv_r 10), some (xv_r a1), none, none, some (xv_l a4), none, some (xv_i (wt_cell a2 a3)), some (xv_i (0 : Int32))]) (xl_s (xl_s (xl_o (xl_o (xl_s (xl_o (xl_s (xl_s xl_n)))))))) ?_
  refine wt_addEach_l10_ok n d hw1 (fun m406 h => ?_) F (0 : Int32) m h
  obtain rfl := Option.some.inj h
  exact xr_vret (kd_38) (in_38 rfl) (Nat.le_refl _) (Nat.le_refl _) ⟨rfl, rfl⟩
def wt_findJoined_l10 (F : Nat) (n : Nat) (a382 : Int32) (a383 : Int32) (a384 : Int32) (k : xm_S → Option (xm_S)) : Nat → Int32 → xm_S → Option (xm_S)
  | 0, _, _ => none
  | fu + 1, a385, m381 => xg_n a384 448 (if (m381.1 12 a384.toNatClampNeg) ≤ a385 then k m381 else if (m381.1 14 2) = 0 then xg_n a384 448 (xg_n ((m381.1 11 a384.toNatClampNeg) + a385) (xk_l n) (xc_v (wt_addEach F n 14 a382 a383 (m381.2 (xk_c n) ((m381.1 11 a384.toNatClampNeg) + a385).toNatClampNeg) m381) fun m408 => wt_findJoined_l10 F n a382 a383 a384 k fu (a385 + (1 : Int32)) m408)) else k m381)
theorem wt_findJoined_l10_ok {xt : Nat → Nat × (Nat → Int32)} (n d : Nat) {F : Nat} {a382 : Int32} {a383 : Int32} {a384 : Int32} {k : xm_S → Option (xm_S)} {m' : xm_S} 
    (hk : ∀ (m : xm_S), k m = some m' → xm_Run pg xt (d + 2) 37 0 0 (xQ_v (sh n) m') 63 [none, none, none, none, none, none] [] (xq_2 (sh n) m) 0 0) :
    ∀ (fu : Nat) (a385 : Int32) (m381 : xm_S), wt_findJoined_l10 F n a382 a383 a384 k fu a385 m381 = some m' → xm_Run pg xt (d + 2) 37 0 0 (xQ_v (sh n) m') 10 [some (xv_r 10), none, some (xv_i a382), some (xv_i a383), some (xv_i a384), some (xv_i a385)] [] (xq_2 (sh n) m381) 0 0 := by
  intro fu
  induction fu with
  | zero => intro a385 m381 h; cases h
  | succ fu ih =>
    intro a385 m381 h
    rw [wt_findJoined_l10] at h
    refine xr_iload (in_37 rfl) rfl ?_
    refine xr_aload_n (in_37 rfl) rfl ?_
    refine xq_getr (in_37 rfl) (fo_37 rfl) (sh_10 n) rfl ?_
    refine xr_iload (in_37 rfl) rfl ?_
    obtain ⟨o386, h⟩ := xg_e h
    refine xq_iald (in_37 rfl) (sh_12 n) o386 ?_
    by_cases c387 : (m381.1 12 a384.toNatClampNeg) ≤ a385
    · replace h := (if_pos c387).symm.trans h
      refine xr_ict 63 (in_37 rfl) rfl c387 ?_
      refine xr_forget (loc' := [none, none, none, none, none, none]) (xl_o (xl_o (xl_o (xl_o (xl_o (xl_o xl_n)))))) ?_
      exact hk m381 h
    · replace h := (if_neg c387).symm.trans h
      refine xr_icf 63 (in_37 rfl) rfl c387 ?_
      refine xr_aload_n (in_37 rfl) rfl ?_
      refine xq_getr (in_37 rfl) (fo_37 rfl) (sh_10 n) rfl ?_
      refine xq_geti (in_37 rfl) (fo_37 rfl) (sh_14 n) rfl ?_
      by_cases c388 : (m381.1 14 2) = 0
      · replace h := (if_pos c388).symm.trans h
        refine xr_iff 63 (in_37 rfl) rfl (fun q => q c388) ?_
        refine xr_aload_n (in_37 rfl) rfl ?_
        refine xr_aload_n (in_37 rfl) rfl ?_
        refine xq_getr (in_37 rfl) (fo_37 rfl) (sh_10 n) rfl ?_
        refine xr_iload_n (in_37 rfl) rfl ?_
        refine xr_iload_n (in_37 rfl) rfl ?_
        refine xr_aload_n (in_37 rfl) rfl ?_
        refine xq_getr (in_37 rfl) (fo_37 rfl) (sh_10 n) rfl ?_
        refine xr_aload_n (in_37 rfl) rfl ?_
        refine xq_getr (in_37 rfl) (fo_37 rfl) (sh_10 n) rfl ?_
        refine xr_iload (in_37 rfl) rfl ?_
        obtain ⟨o389, h⟩ := xg_e h
        refine xq_iald (in_37 rfl) (sh_11 n) o389 ?_
        refine xr_iload (in_37 rfl) rfl ?_
        refine xr_iadd (in_37 rfl) ?_
        obtain ⟨o390, h⟩ := xg_e h
        refine xq_lald (in_37 rfl) (sh_k n) o390 ?_
        obtain ⟨m408, e409, h⟩ := xc_v_e h
        refine xq_callv [xv_r 10, xv_r 14, xv_i a382, xv_i a383, xv_l (m381.2 (xk_c n) ((m381.1 11 a384.toNatClampNeg) + a385).toNatClampNeg)] [] [some (xv_r 10), some (xv_r 14), some (xv_i a382), some (xv_i a383), some (xv_l (m381.2 (xk_c n) ((m381.1 11 a384.toNatClampNeg) + a385).toNatClampNeg)), none, none, none] (xk_V (in_37 rfl) (sh_10 n)) (cl_37 rfl) rfl rfl rfl rfl (wt_addEach_ok n d xw_F e409) ?_
        refine xr_iinc (a385 + (1 : Int32)) [some (xv_r 10), none, some (xv_i a382), some (xv_i a383), some (xv_i a384), some (xv_i (a385 + (1 : Int32)))] (in_37 rfl) rfl (xi_1 _) (nl_37 rfl) rfl ?_
        refine xr_goto 10 (in_37 rfl) rfl ?_
        exact ih (a385 + (1 : Int32)) m408 h
      · replace h := (if_neg c388).symm.trans h
        refine xr_ift 63 (in_37 rfl) rfl c388 ?_
        refine xr_forget (loc' := [none, none, none, none, none, none]) (xl_o (xl_o (xl_o (xl_o (xl_o (xl_o xl_n)))))) ?_
        exact hk m381 h
def wt_findJoined (F : Nat) (n : Nat) (a1 : Int32) (a2 : Int32) (a3 : Int32) (m : xm_S) : Option (xm_S) := wt_findJoined_l10 F n a2 a3 (wt_cell a1 a3) (fun (m411 : xm_S) => some m411) F (0 : Int32) m
theorem wt_findJoined_ok {xt : Nat → Nat × (Nat → Int32)} (n d : Nat) {F : Nat} {a1 : Int32} {a2 : Int32} {a3 : Int32} {m m' : xm_S} (h : wt_findJoined F n a1 a2 a3 m = some m') : xm_Run pg xt (d + 2) 37 0 0 (xQ_v (sh n) m') 0 [some (xv_r 10), some (xv_i a1), some (xv_i a2), some (xv_i a3), none, none] [] (xq_2 (sh n) m) 0 0 := by
  unfold wt_findJoined at h
  refine xr_iload_n (in_37 rfl) rfl ?_
  refine xr_iload_n (in_37 rfl) rfl ?_
  refine xq_calla [xv_i a1, xv_i a3] [] [some (xv_i a1), some (xv_i a3)] (xk_S (in_37 rfl)) (cl_37 rfl) rfl rfl rfl rfl (wt_cell_ok n (d + 1) rfl) ?_
  refine xr_istore [some (xv_r 10), some (xv_i a1), some (xv_i a2), some (xv_i a3), some (xv_i (wt_cell a1 a3)), none] (in_37 rfl) (nl_37 rfl) rfl ?_
  refine xr_iconst_ _ (in_37 rfl) (show _ = (0 : Int32) by decide) ?_
  refine xr_istore [some (xv_r 10), some (xv_i a1), some (xv_i a2), some (xv_i a3), some (xv_i (wt_cell a1 a3)), some (xv_i (0 : Int32))] (in_37 rfl) (nl_37 rfl) rfl ?_
  refine xr_forget (loc' := [some (xv_r 10), none, some (xv_i a2), some (xv_i a3), some (xv_i (wt_cell a1 a3)), some (xv_i (0 : Int32))]) (xl_s (xl_o (xl_s (xl_s (xl_s (xl_s xl_n)))))) ?_
  refine wt_findJoined_l10_ok n d (fun m411 h => ?_) F (0 : Int32) m h
  obtain rfl := Option.some.inj h
  exact xr_vret (kd_37) (in_37 rfl) (Nat.le_refl _) (Nat.le_refl _) ⟨rfl, rfl⟩
def wy_toHoldNext (a0 : Int32) : Int64 := (1 : Int64) <<< (a0.toInt64 &&& 63)
theorem wy_toHoldNext_ok {xt : Nat → Nat × (Nat → Int32)} (n d : Nat) {a0 : Int32} {m : xm_S} {r : Int64} (h : wy_toHoldNext a0 = r) : xm_Run pg xt d 39 0 0 (xQ_l (sh n) r m) 0 [some (xv_i a0)] [] (xq_2 (sh n) m) 0 0 := by
  unfold wy_toHoldNext at h
  refine xr_lconst_ _ (in_39 rfl) (show _ = (1 : Int64) by decide) ?_
  refine xr_iload_n (in_39 rfl) rfl ?_
  refine xr_lshl (in_39 rfl) ?_
  subst h
  exact xr_lret (kd_39) (in_39 rfl) (Nat.le_refl _) (Nat.le_refl _) ⟨rfl, rfl⟩
def wy_putOff (a0 : Int32) : Int64 := (1 : Int64) <<< (((28 : Int32) + a0).toInt64 &&& 63)
theorem wy_putOff_ok {xt : Nat → Nat × (Nat → Int32)} (n d : Nat) {a0 : Int32} {m : xm_S} {r : Int64} (h : wy_putOff a0 = r) : xm_Run pg xt d 40 0 0 (xQ_l (sh n) r m) 0 [some (xv_i a0)] [] (xq_2 (sh n) m) 0 0 := by
  unfold wy_putOff at h
  refine xr_lconst_ _ (in_40 rfl) (show _ = (1 : Int64) by decide) ?_
  refine xr_bipush_ _ (in_40 rfl) (show _ = (28 : Int32) by decide) ?_
  refine xr_iload_n (in_40 rfl) rfl ?_
  refine xr_iadd (in_40 rfl) ?_
  refine xr_lshl (in_40 rfl) ?_
  subst h
  exact xr_lret (kd_40) (in_40 rfl) (Nat.le_refl _) (Nat.le_refl _) ⟨rfl, rfl⟩
