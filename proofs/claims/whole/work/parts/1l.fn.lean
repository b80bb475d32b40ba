/-! Methods as functions, and that they run so (written by program). -/
def mm_build_l36 (F : Nat) (a2192 : Int32) (k : xm_S → Option (xm_S)) : Nat → Int32 → xm_S → Option (xm_S)
  | 0, _, _ => none
  | fu + 1, a2193, m2191 => if (100 : Int32) ≤ a2193 then k m2191 else xg_n a2193 100 (xs_m (xw_i m2191 53 a2193.toNatClampNeg (-1 : Int32)) fun m2196 => mm_build_l36 F a2192 k fu (a2193 + (1 : Int32)) m2196)
theorem mm_build_l36_ok {xt : Nat → Nat × (Nat → Int32)} (n d : Nat) {F : Nat} {a2192 : Int32} {k : xm_S → Option (xm_S)} {m' : xm_S} 
    (hk : ∀ (m : xm_S), k m = some m' → xm_Run pg xt (d + 2) 114 0 0 (xQ_v (sh n) m') 55 [some (xv_r 35), some (xv_i a2192), none, none, none, none, none] [] (xq_2 (sh n) m) 0 0) :
    ∀ (fu : Nat) (a2193 : Int32) (m2191 : xm_S), mm_build_l36 F a2192 k fu a2193 m2191 = some m' → xm_Run pg xt (d + 2) 114 0 0 (xQ_v (sh n) m') 36 [some (xv_r 35), some (xv_i a2192), some (xv_i a2193), none, none, none, none] [] (xq_2 (sh n) m2191) 0 0 := by
  intro fu
  induction fu with
  | zero => intro a2193 m2191 h; cases h
  | succ fu ih =>
    intro a2193 m2191 h
    rw [mm_build_l36] at h
    refine xr_iload_n (in_114 rfl) rfl ?_
    refine xr_bipush_ _ (in_114 rfl) (show _ = (100 : Int32) by decide) ?_
    by_cases c2194 : (100 : Int32) ≤ a2193
    · replace h := (if_pos c2194).symm.trans h
      refine xr_ict 55 (in_114 rfl) rfl c2194 ?_
      refine xr_forget (loc' := [some (xv_r 35), some (xv_i a2192), none, none, none, none, none]) (xl_s (xl_s (xl_o (xl_o (xl_o (xl_o (xl_o xl_n))))))) ?_
      exact hk m2191 h
    · replace h := (if_neg c2194).symm.trans h
      refine xr_icf 55 (in_114 rfl) rfl c2194 ?_
      refine xr_aload_n (in_114 rfl) rfl ?_
      refine xq_getr (in_114 rfl) (fo_114 rfl) (sh_35 n) rfl ?_
      refine xr_iload_n (in_114 rfl) rfl ?_
      refine xr_iconst_ _ (in_114 rfl) (show _ = (-1 : Int32) by decide) ?_
      obtain ⟨o2195, h⟩ := xg_e h
      refine xq_iast (in_114 rfl) (sh_53 n) o2195 ?_
      obtain ⟨m2196, e2197, h⟩ := xs_e h
      rw [← e2197]
      clear e2197
      refine xr_iinc (a2193 + (1 : Int32)) [some (xv_r 35), some (xv_i a2192), some (xv_i (a2193 + (1 : Int32))), none, none, none, none] (in_114 rfl) rfl (xi_1 _) (nl_114 rfl) rfl ?_
      refine xr_goto 36 (in_114 rfl) rfl ?_
      exact ih (a2193 + (1 : Int32)) m2196 h
def mm_build_l82 (F : Nat) (a2234 : Int32) (a2235 : Int32) (a2236 : Int32) (k : xm_S → Option (xm_S)) : Nat → Int32 → xm_S → Option (xm_S)
  | 0, _, _ => none
  | fu + 1, a2237, m2233 => if (4 : Int32) ≤ a2237 then k m2233 else xj_j (fun (x2249 : Int32) (m2250 : xm_S) => xg_n (((4 : Int32) * a2235) + a2237) 400 (xs_m (xw_i m2250 55 (((4 : Int32) * a2235) + a2237).toNatClampNeg x2249) fun m2255 => xg_n (((16 : Int32) * a2236) + (if a2234 = 0 then x2249 + ((4 : Int32) * a2237) else a2237 + ((4 : Int32) * x2249))) 1600 (xc_m (mm_numberOf F (m2255.1 51 (((16 : Int32) * a2236) + (if a2234 = 0 then x2249 + ((4 : Int32) * a2237) else a2237 + ((4 : Int32) * x2249))).toNatClampNeg) m2255) fun v2259 m2260 => xg_n (((4 : Int32) * a2235) + a2237) 400 (xs_m (xw_i m2260 56 (((4 : Int32) * a2235) + a2237).toNatClampNeg v2259) fun m2264 => mm_build_l82 F a2234 a2235 a2236 k fu (a2237 + (1 : Int32)) m2264)))) fun j2251 => if a2234 = 0 then xc_m (mm_input F a2236 m2233) fun v2268 m2269 => j2251 v2268 m2269 else xc_m (mm_output F a2236 a2237 m2233) fun v2272 m2273 => j2251 v2272 m2273
theorem mm_build_l82_ok {xt : Nat → Nat × (Nat → Int32)} (n d : Nat) {F : Nat} {a2234 : Int32} {a2235 : Int32} {a2236 : Int32} {k : xm_S → Option (xm_S)} {m' : xm_S} 
    (hk : ∀ (m : xm_S), k m = some m' → xm_Run pg xt (d + 2) 114 0 0 (xQ_v (sh n) m') 177 [some (xv_r 35), some (xv_i a2234), none, some (xv_i a2235), none, none, none] [] (xq_2 (sh n) m) 0 0) :
    ∀ (fu : Nat) (a2237 : Int32) (m2233 : xm_S), mm_build_l82 F a2234 a2235 a2236 k fu a2237 m2233 = some m' → xm_Run pg xt (d + 2) 114 0 0 (xQ_v (sh n) m') 82 [some (xv_r 35), some (xv_i a2234), none, some (xv_i a2235), some (xv_i a2236), some (xv_i a2237), none] [] (xq_2 (sh n) m2233) 0 0 := by
  intro fu
  induction fu with
  | zero => intro a2237 m2233 h; cases h
  | succ fu ih =>
    intro a2237 m2233 h
    rw [mm_build_l82] at h
    refine xr_iload (in_114 rfl) rfl ?_
    refine xr_iconst_ _ (in_114 rfl) (show _ = (4 : Int32) by decide) ?_
    by_cases c2238 : (4 : Int32) ≤ a2237
    · replace h := (if_pos c2238).symm.trans h
      refine xr_ict 177 (in_114 rfl) rfl c2238 ?_
      refine xr_forget (loc' := [some (xv_r 35), some (xv_i a2234), none, some (xv_i a2235), none, none, none]) (xl_s (xl_s (xl_o (xl_s (xl_o (xl_o (xl_o xl_n))))))) ?_
      exact hk m2233 h
    · replace h := (if_neg c2238).symm.trans h
      refine xr_icf 177 (in_114 rfl) rfl c2238 ?_
      refine xr_iload_n (in_114 rfl) rfl ?_
      obtain ⟨j2251, e2252, h⟩ := xj_e h
      have q2253 : ∀ (x2249 : Int32) (m2250 : xm_S), j2251 x2249 m2250 = some m' → xm_Run pg xt (d + 2) 114 0 0 (xQ_v (sh n) m') 109 [some (xv_r 35), some (xv_i a2234), none, some (xv_i a2235), some (xv_i a2236), some (xv_i a2237), none] [xv_i x2249] (xq_2 (sh n) m2250) 0 0 := by
        intro x2249 m2250 h
        rw [e2252] at h
        refine xr_istore [some (xv_r 35), some (xv_i a2234), none, some (xv_i a2235), some (xv_i a2236), some (xv_i a2237), some (xv_i x2249)] (in_114 rfl) (nl_114 rfl) rfl ?_
        refine xr_aload_n (in_114 rfl) rfl ?_
        refine xq_getr (in_114 rfl) (fo_114 rfl) (sh_35 n) rfl ?_
        refine xr_iconst_ _ (in_114 rfl) (show _ = (4 : Int32) by decide) ?_
        refine xr_iload_n (in_114 rfl) rfl ?_
        refine xr_imul (in_114 rfl) ?_
        refine xr_iload (in_114 rfl) rfl ?_
        refine xr_iadd (in_114 rfl) ?_
        refine xr_iload (in_114 rfl) rfl ?_
        obtain ⟨o2254, h⟩ := xg_e h
        refine xq_iast (in_114 rfl) (sh_55 n) o2254 ?_
        obtain ⟨m2255, e2256, h⟩ := xs_e h
        rw [← e2256]
        clear e2256
        refine xr_aload_n (in_114 rfl) rfl ?_
        refine xq_getr (in_114 rfl) (fo_114 rfl) (sh_35 n) rfl ?_
        refine xr_iconst_ _ (in_114 rfl) (show _ = (4 : Int32) by decide) ?_
        refine xr_iload_n (in_114 rfl) rfl ?_
        refine xr_imul (in_114 rfl) ?_
        refine xr_iload (in_114 rfl) rfl ?_
        refine xr_iadd (in_114 rfl) ?_
        refine xr_aload_n (in_114 rfl) rfl ?_
        refine xr_aload_n (in_114 rfl) rfl ?_
        refine xq_getr (in_114 rfl) (fo_114 rfl) (sh_35 n) rfl ?_
        refine xr_bipush_ _ (in_114 rfl) (show _ = (16 : Int32) by decide) ?_
        refine xr_iload (in_114 rfl) rfl ?_
        refine xr_imul (in_114 rfl) ?_
        refine xr_iload_n (in_114 rfl) rfl ?_
        have q2266 : xm_Run pg xt (d + 2) 114 0 0 (xQ_v (sh n) m') 165 [some (xv_r 35), some (xv_i a2234), none, some (xv_i a2235), some (xv_i a2236), some (xv_i a2237), none] [xv_i (if a2234 = 0 then x2249 + ((4 : Int32) * a2237) else a2237 + ((4 : Int32) * x2249)), xv_i ((16 : Int32) * a2236), xv_r 51, xv_r 35, xv_i (((4 : Int32) * a2235) + a2237), xv_r 56] (xq_2 (sh n) m2255) 0 0 := by
          refine xr_iadd (in_114 rfl) ?_
          obtain ⟨o2258, h⟩ := xg_e h
          refine xq_iald (in_114 rfl) (sh_51 n) o2258 ?_
          obtain ⟨v2259, m2260, e2261, h⟩ := xc_m_e h
          refine xq_calla [xv_r 35, xv_i (m2255.1 51 (((16 : Int32) * a2236) + (if a2234 = 0 then x2249 + ((4 : Int32) * a2237) else a2237 + ((4 : Int32) * x2249))).toNatClampNeg)] [xv_i (((4 : Int32) * a2235) + a2237), xv_r 56] [some (xv_r 35), some (xv_i (m2255.1 51 (((16 : Int32) * a2236) + (if a2234 = 0 then x2249 + ((4 : Int32) * a2237) else a2237 + ((4 : Int32) * x2249))).toNatClampNeg))] (xk_V (in_114 rfl) (sh_35 n)) (cl_114 rfl) rfl rfl rfl rfl (mm_numberOf_ok n (d + 1) e2261) ?_
          obtain ⟨o2263, h⟩ := xg_e h
          refine xq_iast (in_114 rfl) (sh_56 n) o2263 ?_
          obtain ⟨m2264, e2265, h⟩ := xs_e h
          rw [← e2265]
          clear e2265
          refine xr_iinc (a2237 + (1 : Int32)) [some (xv_r 35), some (xv_i a2234), none, some (xv_i a2235), some (xv_i a2236), some (xv_i (a2237 + (1 : Int32))), none] (in_114 rfl) rfl (xi_1 _) (nl_114 rfl) rfl ?_
          refine xr_goto 82 (in_114 rfl) rfl ?_
          exact ih (a2237 + (1 : Int32)) m2264 h
        by_cases c2257 : a2234 = 0
        · refine xr_ift 158 (in_114 rfl) rfl c2257 ?_
          refine xr_iload (in_114 rfl) rfl ?_
          refine xr_iconst_ _ (in_114 rfl) (show _ = (4 : Int32) by decide) ?_
          refine xr_iload (in_114 rfl) rfl ?_
          refine xr_imul (in_114 rfl) ?_
          refine xr_iadd (in_114 rfl) ?_
          refine xr_forget (loc' := [some (xv_r 35), some (xv_i a2234), none, some (xv_i a2235), some (xv_i a2236), some (xv_i a2237), none]) (xl_s (xl_s (xl_o (xl_s (xl_s (xl_s (xl_o xl_n))))))) ?_
          rw [show (if a2234 = 0 then x2249 + ((4 : Int32) * a2237) else a2237 + ((4 : Int32) * x2249)) = x2249 + ((4 : Int32) * a2237) by rw [if_pos c2257]] at q2266
          exact q2266
        · refine xr_iff 158 (in_114 rfl) rfl c2257 ?_
          refine xr_iload (in_114 rfl) rfl ?_
          refine xr_iconst_ _ (in_114 rfl) (show _ = (4 : Int32) by decide) ?_
          refine xr_iload (in_114 rfl) rfl ?_
          refine xr_imul (in_114 rfl) ?_
          refine xr_iadd (in_114 rfl) ?_
          refine xr_goto 165 (in_114 rfl) rfl ?_
          refine xr_forget (loc' := [some (xv_r 35), some (xv_i a2234), none, some (xv_i a2235), some (xv_i a2236), some (xv_i a2237), none]) (xl_s (xl_s (xl_o (xl_s (xl_s (xl_s (xl_o xl_n))))))) ?_
          rw [show (if a2234 = 0 then x2249 + ((4 : Int32) * a2237) else a2237 + ((4 : Int32) * x2249)) = a2237 + ((4 : Int32) * x2249) by rw [if_neg c2257]] at q2266
          exact q2266
      clear e2252
      by_cases c2267 : a2234 = 0
      · replace h := (if_pos c2267).symm.trans h
        refine xr_ift 103 (in_114 rfl) rfl c2267 ?_
        refine xr_aload_n (in_114 rfl) rfl ?_
        refine xr_iload (in_114 rfl) rfl ?_
        obtain ⟨v2268, m2269, e2270, h⟩ := xc_m_e h
        refine xq_calla [xv_r 35, xv_i a2236] [] [some (xv_r 35), some (xv_i a2236), none, none, none, none] (xk_V (in_114 rfl) (sh_35 n)) (cl_114 rfl) rfl rfl rfl rfl (mm_input_ok n d e2270) ?_
        exact q2253 v2268 m2269 h
      · replace h := (if_neg c2267).symm.trans h
        refine xr_iff 103 (in_114 rfl) rfl c2267 ?_
        refine xr_aload_n (in_114 rfl) rfl ?_
        refine xr_iload (in_114 rfl) rfl ?_
        refine xr_iload (in_114 rfl) rfl ?_
        obtain ⟨v2272, m2273, e2274, h⟩ := xc_m_e h
        refine xq_calla [xv_r 35, xv_i a2236, xv_i a2237] [] [some (xv_r 35), some (xv_i a2236), some (xv_i a2237), none, none] (xk_V (in_114 rfl) (sh_35 n)) (cl_114 rfl) rfl rfl rfl rfl (mm_output_ok n d e2274) ?_
        refine xr_goto 109 (in_114 rfl) rfl ?_
        exact q2253 v2272 m2273 h
def mm_build_l63 (F : Nat) (a2229 : Int32) (k : xm_S → Option (xm_S)) : Nat → Int32 → xm_S → Option (xm_S)
  | 0, _, _ => none
  | fu + 1, a2230, m2228 => if (m2228.1 35 24) ≤ a2230 then k m2228 else xg_n a2230 100 (mm_build_l82 F a2229 a2230 (m2228.1 54 a2230.toNatClampNeg) (fun (m2276 : xm_S) => mm_build_l63 F a2229 k fu (a2230 + (1 : Int32)) m2276) F (0 : Int32) m2228)
theorem mm_build_l63_ok {xt : Nat → Nat × (Nat → Int32)} (n d : Nat) {F : Nat} {a2229 : Int32} {k : xm_S → Option (xm_S)} {m' : xm_S} 
    (hk : ∀ (m : xm_S), k m = some m' → xm_Run pg xt (d + 2) 114 0 0 (xQ_v (sh n) m') 183 [none, none, none, none, none, none, none] [] (xq_2 (sh n) m) 0 0) :
    ∀ (fu : Nat) (a2230 : Int32) (m2228 : xm_S), mm_build_l63 F a2229 k fu a2230 m2228 = some m' → xm_Run pg xt (d + 2) 114 0 0 (xQ_v (sh n) m') 63 [some (xv_r 35), some (xv_i a2229), none, some (xv_i a2230), none, none, none] [] (xq_2 (sh n) m2228) 0 0 := by
  intro fu
  induction fu with
  | zero => intro a2230 m2228 h; cases h
  | succ fu ih =>
    intro a2230 m2228 h
    rw [mm_build_l63] at h
    refine xr_iload_n (in_114 rfl) rfl ?_
    refine xr_aload_n (in_114 rfl) rfl ?_
    refine xq_geti (in_114 rfl) (fo_114 rfl) (sh_35 n) rfl ?_
    by_cases c2231 : (m2228.1 35 24) ≤ a2230
    · replace h := (if_pos c2231).symm.trans h
      refine xr_ict 183 (in_114 rfl) rfl c2231 ?_
      refine xr_forget (loc' := [none, none, none, none, none, none, none]) (xl_o (xl_o (xl_o (xl_o (xl_o (xl_o (xl_o xl_n))))))) ?_
      exact hk m2228 h
    · replace h := (if_neg c2231).symm.trans h
      refine xr_icf 183 (in_114 rfl) rfl c2231 ?_
      refine xr_aload_n (in_114 rfl) rfl ?_
      refine xq_getr (in_114 rfl) (fo_114 rfl) (sh_35 n) rfl ?_
      refine xr_iload_n (in_114 rfl) rfl ?_
      obtain ⟨o2232, h⟩ := xg_e h
      refine xq_iald (in_114 rfl) (sh_54 n) o2232 ?_
      refine xr_istore [some (xv_r 35), some (xv_i a2229), none, some (xv_i a2230), some (xv_i (m2228.1 54 a2230.toNatClampNeg)), none, none] (in_114 rfl) (nl_114 rfl) rfl ?_
      refine xr_iconst_ _ (in_114 rfl) (show _ = (0 : Int32) by decide) ?_
      refine xr_istore [some (xv_r 35), some (xv_i a2229), none, some (xv_i a2230), some (xv_i (m2228.1 54 a2230.toNatClampNeg)), some (xv_i (0 : Int32)), none] (in_114 rfl) (nl_114 rfl) rfl ?_
      refine mm_build_l82_ok n d (fun m2276 h => ?_) F (0 : Int32) m2228 h
      refine xr_iinc (a2230 + (1 : Int32)) [some (xv_r 35), some (xv_i a2229), none, some (xv_i (a2230 + (1 : Int32))), none, none, none] (in_114 rfl) rfl (xi_1 _) (nl_114 rfl) rfl ?_
      refine xr_goto 63 (in_114 rfl) rfl ?_
      exact ih (a2230 + (1 : Int32)) m2276 h
def mm_build (F : Nat) (a1 : Int32) (m : xm_S) : Option (xm_S) := xs_m (xw_i m 35 23 (if a1 = 0 then (2 : Int32) else (1 : Int32))) fun m2183 => xs_m (xw_i m2183 35 24 (0 : Int32)) fun m2185 => xs_m (xw_i m2185 35 25 (m2185.1 35 18)) fun m2187 => xs_m (xw_i m2187 35 26 (m2187.1 35 22)) fun m2189 => mm_build_l36 F a1 (fun (m2198 : xm_S) => xc_m (mm_numberOf F (0 : Int32) m2198) fun v2224 m2225 => mm_build_l63 F a1 (fun (m2277 : xm_S) => some m2277) F v2224 m2225) F (0 : Int32) m2189
theorem mm_build_ok {xt : Nat → Nat × (Nat → Int32)} (n d : Nat) {F : Nat} {a1 : Int32} {m m' : xm_S} (h : mm_build F a1 m = some m') : xm_Run pg xt (d + 2) 114 0 0 (xQ_v (sh n) m') 0 [some (xv_r 35), some (xv_i a1), none, none, none, none, none] [] (xq_2 (sh n) m) 0 0 := by
  unfold mm_build at h
  refine xr_aload_n (in_114 rfl) rfl ?_
  refine xr_iload_n (in_114 rfl) rfl ?_
  have q2278 : xm_Run pg xt (d + 2) 114 0 0 (xQ_v (sh n) m') 10 [some (xv_r 35), some (xv_i a1), none, none, none, none, none] [xv_i (if a1 = 0 then (2 : Int32) else (1 : Int32)), xv_r 35] (xq_2 (sh n) m) 0 0 := by
    refine xq_put (in_114 rfl) (fo_114 rfl) (sh_35 n) rfl (Or.inl rfl) ?_
    obtain ⟨m2183, e2184, h⟩ := xs_e h
    rw [← e2184]
    clear e2184
    refine xr_aload_n (in_114 rfl) rfl ?_
    refine xr_iconst_ _ (in_114 rfl) (show _ = (0 : Int32) by decide) ?_
    refine xq_put (in_114 rfl) (fo_114 rfl) (sh_35 n) rfl (Or.inl rfl) ?_
    obtain ⟨m2185, e2186, h⟩ := xs_e h
    rw [← e2186]
    clear e2186
    refine xr_aload_n (in_114 rfl) rfl ?_
    refine xr_aload_n (in_114 rfl) rfl ?_
    refine xq_geti (in_114 rfl) (fo_114 rfl) (sh_35 n) rfl ?_
    refine xq_put (in_114 rfl) (fo_114 rfl) (sh_35 n) rfl (Or.inl rfl) ?_
    obtain ⟨m2187, e2188, h⟩ := xs_e h
    rw [← e2188]
    clear e2188
    refine xr_aload_n (in_114 rfl) rfl ?_
    refine xr_aload_n (in_114 rfl) rfl ?_
    refine xq_geti (in_114 rfl) (fo_114 rfl) (sh_35 n) rfl ?_
    refine xq_put (in_114 rfl) (fo_114 rfl) (sh_35 n) rfl (Or.inl rfl) ?_
    obtain ⟨m2189, e2190, h⟩ := xs_e h
    rw [← e2190]
    clear e2190
    refine xr_iconst_ _ (in_114 rfl) (show _ = (0 : Int32) by decide) ?_
    refine xr_istore_n [some (xv_r 35), some (xv_i a1), some (xv_i (0 : Int32)), none, none, none, none] (in_114 rfl) (nl_114 rfl) rfl ?_
    refine mm_build_l36_ok n d (fun m2198 h => ?_) F (0 : Int32) m2189 h
    refine xr_aload_n (in_114 rfl) rfl ?_
    refine xr_iconst_ _ (in_114 rfl) (show _ = (0 : Int32) by decide) ?_
    obtain ⟨v2224, m2225, e2226, h⟩ := xc_m_e h
    refine xq_calla [xv_r 35, xv_i (0 : Int32)] [] [some (xv_r 35), some (xv_i (0 : Int32))] (xk_V (in_114 rfl) (sh_35 n)) (cl_114 rfl) rfl rfl rfl rfl (mm_numberOf_ok n (d + 1) e2226) ?_
    refine xr_istore_n [some (xv_r 35), some (xv_i a1), some (xv_i v2224), none, none, none, none] (in_114 rfl) (nl_114 rfl) rfl ?_
    refine xr_iload_n (in_114 rfl) rfl ?_
    refine xr_istore_n [some (xv_r 35), some (xv_i a1), some (xv_i v2224), some (xv_i v2224), none, none, none] (in_114 rfl) (nl_114 rfl) rfl ?_
    refine xr_forget (loc' := [some (xv_r 35), some (xv_i a1), none, some (xv_i v2224), none, none, none]) (xl_s (xl_s (xl_o (xl_s (xl_o (xl_o (xl_o xl_n))))))) ?_
    refine mm_build_l63_ok n d (fun m2277 h => ?_) F v2224 m2225 h
    obtain rfl := Option.some.inj h
    exact xr_vret (kd_114) (in_114 rfl) (Nat.le_refl _) (Nat.le_refl _) ⟨rfl, rfl⟩
  by_cases c2182 : a1 = 0
  · refine xr_ift 9 (in_114 rfl) rfl c2182 ?_
    refine xr_iconst_ _ (in_114 rfl) (show _ = (2 : Int32) by decide) ?_
    rw [show (if a1 = 0 then (2 : Int32) else (1 : Int32)) = (2 : Int32) by rw [if_pos c2182]] at q2278
    exact q2278
  · refine xr_iff 9 (in_114 rfl) rfl c2182 ?_
    refine xr_iconst_ _ (in_114 rfl) (show _ = (1 : Int32) by decide) ?_
    refine xr_goto 10 (in_114 rfl) rfl ?_
    rw [show (if a1 = 0 then (2 : Int32) else (1 : Int32)) = (1 : Int32) by rw [if_neg c2182]] at q2278
    exact q2278
def mm_solve (F : Nat) (a1 : Int32) (a2 : Int32) (m : xm_S) : Option (Int32 × xm_S) := if (mm_isFormula a1 m) = 0 then some ((-1 : Int32), m) else if a2 < 0 then some ((-1 : Int32), m) else if a2 ≤ (3 : Int32) then xs_m (xw_i m 35 23 (0 : Int32)) fun m1931 => xs_m (xw_i m1931 35 24 (0 : Int32)) fun m1933 => xs_m (xw_i m1933 35 25 (0 : Int32)) fun m1935 => xs_m (xw_i m1935 35 26 (0 : Int32)) fun m1937 => xc_m (mm_dual F a1 m1937) fun v1939 m1940 => if v1939 < 0 then some ((-2 : Int32), m1940) else xc_m (mm_automaton F v1939 m1940) fun v1944 m1945 => if v1944 = 0 then some ((-2 : Int32), m1945) else xc_m (mm_game F a2 m1945) fun v2051 m2052 => if v2051 = 0 then some ((-2 : Int32), m2052) else xc_v (mm_findSafe F (1 : Int32) m2052) fun m2161 => xg_n (0 : Int32) 100 (if (m2161.1 52 (0 : Int32).toNatClampNeg) = 0 then xc_m (mm_automaton F a1 m2161) fun v2166 m2167 => if v2166 = 0 then some ((-2 : Int32), m2167) else xc_m (mm_game F a2 m2167) fun v2171 m2172 => if v2171 = 0 then some ((-2 : Int32), m2172) else xc_v (mm_findSafe F (0 : Int32) m2172) fun m2177 => xg_n (0 : Int32) 100 (xj_j (fun (m2284 : xm_S) => xg_n (0 : Int32) 100 (if (m2284.1 52 (0 : Int32).toNatClampNeg) = 0 then some ((0 : Int32), m2284) else some ((2 : Int32), m2284))) fun j2285 => if (m2177.1 52 (0 : Int32).toNatClampNeg) = 0 then j2285 m2177 else xc_v (mm_build F (0 : Int32) m2177) fun m2292 => j2285 m2292) else xc_v (mm_build F (1 : Int32) m2161) fun m2296 => some ((1 : Int32), m2296)) else some ((-1 : Int32), m)
theorem mm_solve_ok {xt : Nat → Nat × (Nat → Int32)} (n d : Nat) {F : Nat} {a1 : Int32} {a2 : Int32} {m m' : xm_S} {r : Int32} (h : mm_solve F a1 a2 m = some (r, m')) : xm_Run pg xt (d + 5) 104 0 0 (xQ_i (sh n) r m') 0 [some (xv_r 35), some (xv_i a1), some (xv_i a2), none] [] (xq_2 (sh n) m) 0 0 := by
  unfold mm_solve at h
  refine xr_aload_n (in_104 rfl) rfl ?_
  refine xr_iload_n (in_104 rfl) rfl ?_
  refine xq_calla [xv_r 35, xv_i a1] [] [some (xv_r 35), some (xv_i a1)] (xk_V (in_104 rfl) (sh_35 n)) (cl_104 rfl) rfl rfl rfl rfl (mm_isFormula_ok n (d + 4) rfl) ?_
  by_cases c1928 : (mm_isFormula a1 m) = 0
  · replace h := (if_pos c1928).symm.trans h
    refine xr_ift 17 (in_104 rfl) rfl c1928 ?_
    refine xr_iconst_ _ (in_104 rfl) (show _ = (-1 : Int32) by decide) ?_
    obtain ⟨rfl, rfl⟩ := Prod.mk.inj (Option.some.inj h)
    exact xr_iret (kd_104) (in_104 rfl) (Nat.le_refl _) (Nat.le_refl _) ⟨rfl, rfl⟩
  · replace h := (if_neg c1928).symm.trans h
    refine xr_iff 17 (in_104 rfl) rfl c1928 ?_
    refine xr_iload_n (in_104 rfl) rfl ?_
    by_cases c1929 : a2 < 0
    · replace h := (if_pos c1929).symm.trans h
      refine xr_ift 17 (in_104 rfl) rfl c1929 ?_
      refine xr_iconst_ _ (in_104 rfl) (show _ = (-1 : Int32) by decide) ?_
      obtain ⟨rfl, rfl⟩ := Prod.mk.inj (Option.some.inj h)
      exact xr_iret (kd_104) (in_104 rfl) (Nat.le_refl _) (Nat.le_refl _) ⟨rfl, rfl⟩
    · replace h := (if_neg c1929).symm.trans h
      refine xr_iff 17 (in_104 rfl) rfl c1929 ?_
      refine xr_iload_n (in_104 rfl) rfl ?_
      refine xr_iconst_ _ (in_104 rfl) (show _ = (3 : Int32) by decide) ?_
      by_cases c1930 : a2 ≤ (3 : Int32)
      · replace h := (if_pos c1930).symm.trans h
        refine xr_ict 19 (in_104 rfl) rfl c1930 ?_
        refine xr_aload_n (in_104 rfl) rfl ?_
        refine xr_iconst_ _ (in_104 rfl) (show _ = (0 : Int32) by decide) ?_
        refine xq_put (in_104 rfl) (fo_104 rfl) (sh_35 n) rfl (Or.inl rfl) ?_
        obtain ⟨m1931, e1932, h⟩ := xs_e h
        rw [← e1932]
        clear e1932
        refine xr_aload_n (in_104 rfl) rfl ?_
        refine xr_iconst_ _ (in_104 rfl) (show _ = (0 : Int32) by decide) ?_
        refine xq_put (in_104 rfl) (fo_104 rfl) (sh_35 n) rfl (Or.inl rfl) ?_
        obtain ⟨m1933, e1934, h⟩ := xs_e h
        rw [← e1934]
        clear e1934
        refine xr_aload_n (in_104 rfl) rfl ?_
        refine xr_iconst_ _ (in_104 rfl) (show _ = (0 : Int32) by decide) ?_
        refine xq_put (in_104 rfl) (fo_104 rfl) (sh_35 n) rfl (Or.inl rfl) ?_
        obtain ⟨m1935, e1936, h⟩ := xs_e h
        rw [← e1936]
        clear e1936
        refine xr_aload_n (in_104 rfl) rfl ?_
        refine xr_iconst_ _ (in_104 rfl) (show _ = (0 : Int32) by decide) ?_
        refine xq_put (in_104 rfl) (fo_104 rfl) (sh_35 n) rfl (Or.inl rfl) ?_
        obtain ⟨m1937, e1938, h⟩ := xs_e h
        rw [← e1938]
        clear e1938
        refine xr_aload_n (in_104 rfl) rfl ?_
        refine xr_iload_n (in_104 rfl) rfl ?_
        obtain ⟨v1939, m1940, e1941, h⟩ := xc_m_e h
        refine xq_calla [xv_r 35, xv_i a1] [] [some (xv_r 35), some (xv_i a1), none, none, none, none, none, none, none] (xk_V (in_104 rfl) (sh_35 n)) (cl_104 rfl) rfl rfl rfl rfl (mm_dual_ok n (d + 3) e1941) ?_
        refine xr_istore_n [some (xv_r 35), some (xv_i a1), some (xv_i a2), some (xv_i v1939)] (in_104 rfl) (nl_104 rfl) rfl ?_
        refine xr_iload_n (in_104 rfl) rfl ?_
        by_cases c1943 : v1939 < 0
        · replace h := (if_pos c1943).symm.trans h
          refine xr_ift 65 (in_104 rfl) rfl c1943 ?_
          refine xr_bipush_ _ (in_104 rfl) (show _ = (-2 : Int32) by decide) ?_
          obtain ⟨rfl, rfl⟩ := Prod.mk.inj (Option.some.inj h)
          exact xr_iret (kd_104) (in_104 rfl) (Nat.le_refl _) (Nat.le_refl _) ⟨rfl, rfl⟩
        · replace h := (if_neg c1943).symm.trans h
          refine xr_iff 65 (in_104 rfl) rfl c1943 ?_
          refine xr_aload_n (in_104 rfl) rfl ?_
          refine xr_iload_n (in_104 rfl) rfl ?_
          obtain ⟨v1944, m1945, e1946, h⟩ := xc_m_e h
          refine xq_calla [xv_r 35, xv_i v1939] [] [some (xv_r 35), some (xv_i v1939), none, none, none] (xk_V (in_104 rfl) (sh_35 n)) (cl_104 rfl) rfl rfl rfl rfl (mm_automaton_ok n d e1946) ?_
          by_cases c1948 : v1944 = 0
          · replace h := (if_pos c1948).symm.trans h
            refine xr_ift 65 (in_104 rfl) rfl c1948 ?_
            refine xr_bipush_ _ (in_104 rfl) (show _ = (-2 : Int32) by decide) ?_
            obtain ⟨rfl, rfl⟩ := Prod.mk.inj (Option.some.inj h)
            exact xr_iret (kd_104) (in_104 rfl) (Nat.le_refl _) (Nat.le_refl _) ⟨rfl, rfl⟩
          · replace h := (if_neg c1948).symm.trans h
            refine xr_iff 65 (in_104 rfl) rfl c1948 ?_
            refine xr_aload_n (in_104 rfl) rfl ?_
            refine xr_iload_n (in_104 rfl) rfl ?_
            obtain ⟨v2051, m2052, e2053, h⟩ := xc_m_e h
            refine xq_calla [xv_r 35, xv_i a2] [] [some (xv_r 35), some (xv_i a2), none, none, none, none, none] (xk_V (in_104 rfl) (sh_35 n)) (cl_104 rfl) rfl rfl rfl rfl (mm_game_ok n (d + 2) e2053) ?_
            by_cases c2055 : v2051 = 0
            · replace h := (if_pos c2055).symm.trans h
              refine xr_iff 68 (in_104 rfl) rfl (fun q => q c2055) ?_
              refine xr_bipush_ _ (in_104 rfl) (show _ = (-2 : Int32) by decide) ?_
              obtain ⟨rfl, rfl⟩ := Prod.mk.inj (Option.some.inj h)
              exact xr_iret (kd_104) (in_104 rfl) (Nat.le_refl _) (Nat.le_refl _) ⟨rfl, rfl⟩
            · replace h := (if_neg c2055).symm.trans h
              refine xr_ift 68 (in_104 rfl) rfl c2055 ?_
              refine xr_aload_n (in_104 rfl) rfl ?_
              refine xr_iconst_ _ (in_104 rfl) (show _ = (1 : Int32) by decide) ?_
              obtain ⟨m2161, e2162, h⟩ := xc_v_e h
              refine xq_callv [xv_r 35, xv_i (1 : Int32)] [] [some (xv_r 35), some (xv_i (1 : Int32)), none, none] (xk_V (in_104 rfl) (sh_35 n)) (cl_104 rfl) rfl rfl rfl rfl (mm_findSafe_ok n (d + 1) e2162) ?_
              refine xr_aload_n (in_104 rfl) rfl ?_
              refine xq_getr (in_104 rfl) (fo_104 rfl) (sh_35 n) rfl ?_
              refine xr_iconst_ _ (in_104 rfl) (show _ = (0 : Int32) by decide) ?_
              obtain ⟨o2164, h⟩ := xg_e h
              refine xq_bald (in_104 rfl) (sh_52 n) o2164 ?_
              by_cases c2165 : (m2161.1 52 (0 : Int32).toNatClampNeg) = 0
              · replace h := (if_pos c2165).symm.trans h
                refine xr_ift 89 (in_104 rfl) rfl c2165 ?_
                refine xr_aload_n (in_104 rfl) rfl ?_
                refine xr_iload_n (in_104 rfl) rfl ?_
                obtain ⟨v2166, m2167, e2168, h⟩ := xc_m_e h
                refine xq_calla [xv_r 35, xv_i a1] [] [some (xv_r 35), some (xv_i a1), none, none, none] (xk_V (in_104 rfl) (sh_35 n)) (cl_104 rfl) rfl rfl rfl rfl (mm_automaton_ok n d e2168) ?_
                by_cases c2170 : v2166 = 0
                · replace h := (if_pos c2170).symm.trans h
                  refine xr_ift 105 (in_104 rfl) rfl c2170 ?_
                  refine xr_bipush_ _ (in_104 rfl) (show _ = (-2 : Int32) by decide) ?_
                  obtain ⟨rfl, rfl⟩ := Prod.mk.inj (Option.some.inj h)
                  exact xr_iret (kd_104) (in_104 rfl) (Nat.le_refl _) (Nat.le_refl _) ⟨rfl, rfl⟩
                · replace h := (if_neg c2170).symm.trans h
                  refine xr_iff 105 (in_104 rfl) rfl c2170 ?_
                  refine xr_aload_n (in_104 rfl) rfl ?_
                  refine xr_iload_n (in_104 rfl) rfl ?_
                  obtain ⟨v2171, m2172, e2173, h⟩ := xc_m_e h
                  refine xq_calla [xv_r 35, xv_i a2] [] [some (xv_r 35), some (xv_i a2), none, none, none, none, none] (xk_V (in_104 rfl) (sh_35 n)) (cl_104 rfl) rfl rfl rfl rfl (mm_game_ok n (d + 2) e2173) ?_
                  by_cases c2175 : v2171 = 0
                  · replace h := (if_pos c2175).symm.trans h
                    refine xr_iff 108 (in_104 rfl) rfl (fun q => q c2175) ?_
                    refine xr_bipush_ _ (in_104 rfl) (show _ = (-2 : Int32) by decide) ?_
                    obtain ⟨rfl, rfl⟩ := Prod.mk.inj (Option.some.inj h)
                    exact xr_iret (kd_104) (in_104 rfl) (Nat.le_refl _) (Nat.le_refl _) ⟨rfl, rfl⟩
                  · replace h := (if_neg c2175).symm.trans h
                    refine xr_ift 108 (in_104 rfl) rfl c2175 ?_
                    refine xr_aload_n (in_104 rfl) rfl ?_
                    refine xr_iconst_ _ (in_104 rfl) (show _ = (0 : Int32) by decide) ?_
                    obtain ⟨m2177, e2178, h⟩ := xc_v_e h
                    refine xq_callv [xv_r 35, xv_i (0 : Int32)] [] [some (xv_r 35), some (xv_i (0 : Int32)), none, none] (xk_V (in_104 rfl) (sh_35 n)) (cl_104 rfl) rfl rfl rfl rfl (mm_findSafe_ok n (d + 1) e2178) ?_
                    refine xr_aload_n (in_104 rfl) rfl ?_
                    refine xq_getr (in_104 rfl) (fo_104 rfl) (sh_35 n) rfl ?_
                    refine xr_iconst_ _ (in_104 rfl) (show _ = (0 : Int32) by decide) ?_
                    obtain ⟨o2180, h⟩ := xg_e h
                    refine xq_bald (in_104 rfl) (sh_52 n) o2180 ?_
                    obtain ⟨j2285, e2286, h⟩ := xj_e h
                    have q2287 : ∀ (m2284 : xm_S), j2285 m2284 = some (r, m') → xm_Run pg xt (d + 5) 104 0 0 (xQ_i (sh n) r m') 127 [some (xv_r 35), none, none, none] [] (xq_2 (sh n) m2284) 0 0 := by
                      intro m2284 h
                      rw [e2286] at h
                      refine xr_aload_n (in_104 rfl) rfl ?_
                      refine xq_getr (in_104 rfl) (fo_104 rfl) (sh_35 n) rfl ?_
                      refine xr_iconst_ _ (in_104 rfl) (show _ = (0 : Int32) by decide) ?_
                      obtain ⟨o2288, h⟩ := xg_e h
                      refine xq_bald (in_104 rfl) (sh_52 n) o2288 ?_
                      by_cases c2289 : (m2284.1 52 (0 : Int32).toNatClampNeg) = 0
                      · replace h := (if_pos c2289).symm.trans h
                        refine xr_ift 140 (in_104 rfl) rfl c2289 ?_
                        refine xr_iconst_ _ (in_104 rfl) (show _ = (0 : Int32) by decide) ?_
                        obtain ⟨rfl, rfl⟩ := Prod.mk.inj (Option.some.inj h)
                        exact xr_iret (kd_104) (in_104 rfl) (Nat.le_refl _) (Nat.le_refl _) ⟨rfl, rfl⟩
                      · replace h := (if_neg c2289).symm.trans h
                        refine xr_iff 140 (in_104 rfl) rfl c2289 ?_
                        refine xr_iconst_ _ (in_104 rfl) (show _ = (2 : Int32) by decide) ?_
                        refine xr_goto 141 (in_104 rfl) rfl ?_
                        obtain ⟨rfl, rfl⟩ := Prod.mk.inj (Option.some.inj h)
                        exact xr_iret (kd_104) (in_104 rfl) (Nat.le_refl _) (Nat.le_refl _) ⟨rfl, rfl⟩
                    clear e2286
                    by_cases c2290 : (m2177.1 52 (0 : Int32).toNatClampNeg) = 0
                    · replace h := (if_pos c2290).symm.trans h
                      refine xr_ift 127 (in_104 rfl) rfl c2290 ?_
                      refine xr_forget (loc' := [some (xv_r 35), none, none, none]) (xl_s (xl_o (xl_o (xl_o xl_n)))) ?_
                      exact q2287 m2177 h
                    · replace h := (if_neg c2290).symm.trans h
                      refine xr_iff 127 (in_104 rfl) rfl c2290 ?_
                      refine xr_aload_n (in_104 rfl) rfl ?_
                      refine xr_iconst_ _ (in_104 rfl) (show _ = (0 : Int32) by decide) ?_
                      obtain ⟨m2292, e2293, h⟩ := xc_v_e h
                      refine xq_callv [xv_r 35, xv_i (0 : Int32)] [] [some (xv_r 35), some (xv_i (0 : Int32)), none, none, none, none, none] (xk_V (in_104 rfl) (sh_35 n)) (cl_104 rfl) rfl rfl rfl rfl (mm_build_ok n (d + 2) e2293) ?_
                      refine xr_forget (loc' := [some (xv_r 35), none, none, none]) (xl_s (xl_o (xl_o (xl_o xl_n)))) ?_
                      exact q2287 m2292 h
              · replace h := (if_neg c2165).symm.trans h
                refine xr_iff 89 (in_104 rfl) rfl c2165 ?_
                refine xr_aload_n (in_104 rfl) rfl ?_
                refine xr_iconst_ _ (in_104 rfl) (show _ = (1 : Int32) by decide) ?_
                obtain ⟨m2296, e2297, h⟩ := xc_v_e h
                refine xq_callv [xv_r 35, xv_i (1 : Int32)] [] [some (xv_r 35), some (xv_i (1 : Int32)), none, none, none, none, none] (xk_V (in_104 rfl) (sh_35 n)) (cl_104 rfl) rfl rfl rfl rfl (mm_build_ok n (d + 2) e2297) ?_
                refine xr_iconst_ _ (in_104 rfl) (show _ = (1 : Int32) by decide) ?_
                obtain ⟨rfl, rfl⟩ := Prod.mk.inj (Option.some.inj h)
                exact xr_iret (kd_104) (in_104 rfl) (Nat.le_refl _) (Nat.le_refl _) ⟨rfl, rfl⟩
      · replace h := (if_neg c1930).symm.trans h
        refine xr_icf 19 (in_104 rfl) rfl c1930 ?_
        refine xr_iconst_ _ (in_104 rfl) (show _ = (-1 : Int32) by decide) ?_
        obtain ⟨rfl, rfl⟩ := Prod.mk.inj (Option.some.inj h)
        exact xr_iret (kd_104) (in_104 rfl) (Nat.le_refl _) (Nat.le_refl _) ⟨rfl, rfl⟩
def mm_size (a1 : Int32) (m : xm_S) : Int32 := if a1 = 0 then m.1 35 24 else if a1 = (1 : Int32) then m.1 35 25 else if a1 = (2 : Int32) then m.1 35 26 else (-1 : Int32)
theorem mm_size_ok {xt : Nat → Nat × (Nat → Int32)} (n d : Nat) {a1 : Int32} {m : xm_S} {r : Int32} (h : mm_size a1 m = r) : xm_Run pg xt d 116 0 0 (xQ_i (sh n) r m) 0 [some (xv_r 35), some (xv_i a1)] [] (xq_2 (sh n) m) 0 0 := by
  unfold mm_size at h
  refine xr_iload_n (in_116 rfl) rfl ?_
  by_cases c2299 : a1 = 0
  · replace h := (if_pos c2299).symm.trans h
    refine xr_iff 11 (in_116 rfl) rfl (fun q => q c2299) ?_
    refine xr_aload_n (in_116 rfl) rfl ?_
    refine xq_geti (in_116 rfl) (fo_116 rfl) (sh_35 n) rfl ?_
    refine xr_goto 36 (in_116 rfl) rfl ?_
    subst h
    exact xr_iret (kd_116) (in_116 rfl) (Nat.le_refl _) (Nat.le_refl _) ⟨rfl, rfl⟩
  · replace h := (if_neg c2299).symm.trans h
    refine xr_ift 11 (in_116 rfl) rfl c2299 ?_
    refine xr_iload_n (in_116 rfl) rfl ?_
    refine xr_iconst_ _ (in_116 rfl) (show _ = (1 : Int32) by decide) ?_
    by_cases c2300 : a1 = (1 : Int32)
    · replace h := (if_pos c2300).symm.trans h
      refine xr_icf 23 (in_116 rfl) rfl (fun q => q c2300) ?_
      refine xr_aload_n (in_116 rfl) rfl ?_
      refine xq_geti (in_116 rfl) (fo_116 rfl) (sh_35 n) rfl ?_
      refine xr_goto 36 (in_116 rfl) rfl ?_
      subst h
      exact xr_iret (kd_116) (in_116 rfl) (Nat.le_refl _) (Nat.le_refl _) ⟨rfl, rfl⟩
    · replace h := (if_neg c2300).symm.trans h
      refine xr_ict 23 (in_116 rfl) rfl c2300 ?_
      refine xr_iload_n (in_116 rfl) rfl ?_
      refine xr_iconst_ _ (in_116 rfl) (show _ = (2 : Int32) by decide) ?_
      by_cases c2301 : a1 = (2 : Int32)
      · replace h := (if_pos c2301).symm.trans h
        refine xr_icf 35 (in_116 rfl) rfl (fun q => q c2301) ?_
        refine xr_aload_n (in_116 rfl) rfl ?_
        refine xq_geti (in_116 rfl) (fo_116 rfl) (sh_35 n) rfl ?_
        refine xr_goto 36 (in_116 rfl) rfl ?_
        subst h
        exact xr_iret (kd_116) (in_116 rfl) (Nat.le_refl _) (Nat.le_refl _) ⟨rfl, rfl⟩
      · replace h := (if_neg c2301).symm.trans h
        refine xr_ict 35 (in_116 rfl) rfl c2301 ?_
        refine xr_iconst_ _ (in_116 rfl) (show _ = (-1 : Int32) by decide) ?_
        subst h
        exact xr_iret (kd_116) (in_116 rfl) (Nat.le_refl _) (Nat.le_refl _) ⟨rfl, rfl⟩
def mm_isThere (a1 : Int32) (a2 : Int32) (m : xm_S) : Int32 := if (m.1 35 23) ≤ 0 then (0 : Int32) else if a1 < 0 then (0 : Int32) else if (m.1 35 24) ≤ a1 then (0 : Int32) else if a2 < 0 then (0 : Int32) else if (4 : Int32) ≤ a2 then (0 : Int32) else (1 : Int32)
theorem mm_isThere_b {a1 : Int32} {a2 : Int32} {m : xm_S} : mm_isThere a1 a2 m = 0 ∨ mm_isThere a1 a2 m = 1 := by
  unfold mm_isThere
  repeat' split
  all_goals first | decide
theorem mm_isThere_ok {xt : Nat → Nat × (Nat → Int32)} (n d : Nat) {a1 : Int32} {a2 : Int32} {m : xm_S} {r : Int32} (h : mm_isThere a1 a2 m = r) : xm_Run pg xt d 118 0 0 (xQ_i (sh n) r m) 0 [some (xv_r 35), some (xv_i a1), some (xv_i a2)] [] (xq_2 (sh n) m) 0 0 := by
  unfold mm_isThere at h
  refine xr_aload_n (in_118 rfl) rfl ?_
  refine xq_geti (in_118 rfl) (fo_118 rfl) (sh_35 n) rfl ?_
  by_cases c2303 : (m.1 35 23) ≤ 0
  · replace h := (if_pos c2303).symm.trans h
    refine xr_ift 32 (in_118 rfl) rfl c2303 ?_
    refine xr_iconst_ _ (in_118 rfl) (show _ = (0 : Int32) by decide) ?_
    subst h
    exact xr_zret (kd_118) (in_118 rfl) (by decide) (Nat.le_refl _) (Nat.le_refl _) ⟨rfl, rfl⟩
  · replace h := (if_neg c2303).symm.trans h
    refine xr_iff 32 (in_118 rfl) rfl c2303 ?_
    refine xr_iload_n (in_118 rfl) rfl ?_
    by_cases c2304 : a1 < 0
    · replace h := (if_pos c2304).symm.trans h
      refine xr_ift 32 (in_118 rfl) rfl c2304 ?_
      refine xr_iconst_ _ (in_118 rfl) (show _ = (0 : Int32) by decide) ?_
      subst h
      exact xr_zret (kd_118) (in_118 rfl) (by decide) (Nat.le_refl _) (Nat.le_refl _) ⟨rfl, rfl⟩
    · replace h := (if_neg c2304).symm.trans h
      refine xr_iff 32 (in_118 rfl) rfl c2304 ?_
      refine xr_iload_n (in_118 rfl) rfl ?_
      refine xr_aload_n (in_118 rfl) rfl ?_
      refine xq_geti (in_118 rfl) (fo_118 rfl) (sh_35 n) rfl ?_
      by_cases c2305 : (m.1 35 24) ≤ a1
      · replace h := (if_pos c2305).symm.trans h
        refine xr_ict 32 (in_118 rfl) rfl c2305 ?_
        refine xr_iconst_ _ (in_118 rfl) (show _ = (0 : Int32) by decide) ?_
        subst h
        exact xr_zret (kd_118) (in_118 rfl) (by decide) (Nat.le_refl _) (Nat.le_refl _) ⟨rfl, rfl⟩
      · replace h := (if_neg c2305).symm.trans h
        refine xr_icf 32 (in_118 rfl) rfl c2305 ?_
        refine xr_iload_n (in_118 rfl) rfl ?_
        by_cases c2306 : a2 < 0
        · replace h := (if_pos c2306).symm.trans h
          refine xr_ift 32 (in_118 rfl) rfl c2306 ?_
          refine xr_iconst_ _ (in_118 rfl) (show _ = (0 : Int32) by decide) ?_
          subst h
          exact xr_zret (kd_118) (in_118 rfl) (by decide) (Nat.le_refl _) (Nat.le_refl _) ⟨rfl, rfl⟩
        · replace h := (if_neg c2306).symm.trans h
          refine xr_iff 32 (in_118 rfl) rfl c2306 ?_
          refine xr_iload_n (in_118 rfl) rfl ?_
          refine xr_iconst_ _ (in_118 rfl) (show _ = (4 : Int32) by decide) ?_
          by_cases c2307 : (4 : Int32) ≤ a2
          · replace h := (if_pos c2307).symm.trans h
            refine xr_ict 32 (in_118 rfl) rfl c2307 ?_
            refine xr_iconst_ _ (in_118 rfl) (show _ = (0 : Int32) by decide) ?_
            subst h
            exact xr_zret (kd_118) (in_118 rfl) (by decide) (Nat.le_refl _) (Nat.le_refl _) ⟨rfl, rfl⟩
          · replace h := (if_neg c2307).symm.trans h
            refine xr_icf 32 (in_118 rfl) rfl c2307 ?_
            refine xr_iconst_ _ (in_118 rfl) (show _ = (1 : Int32) by decide) ?_
            refine xr_goto 33 (in_118 rfl) rfl ?_
            subst h
            exact xr_zret (kd_118) (in_118 rfl) (by decide) (Nat.le_refl _) (Nat.le_refl _) ⟨rfl, rfl⟩
def mm_gives (F : Nat) (a1 : Int32) (a2 : Int32) (m : xm_S) : Option (Int32 × xm_S) := if (mm_isThere a1 (if (m.1 35 23) = (2 : Int32) then (0 : Int32) else a2) m) = 0 then some ((-1 : Int32), m) else xg_n (((4 : Int32) * a1) + (if (m.1 35 23) = (2 : Int32) then (0 : Int32) else a2)) 400 (some (m.1 55 (((4 : Int32) * a1) + (if (m.1 35 23) = (2 : Int32) then (0 : Int32) else a2)).toNatClampNeg, m))
theorem mm_gives_ok {xt : Nat → Nat × (Nat → Int32)} (n d : Nat) {F : Nat} {a1 : Int32} {a2 : Int32} {m m' : xm_S} {r : Int32} (h : mm_gives F a1 a2 m = some (r, m')) : xm_Run pg xt (d + 1) 117 0 0 (xQ_i (sh n) r m') 0 [some (xv_r 35), some (xv_i a1), some (xv_i a2), none] [] (xq_2 (sh n) m) 0 0 := by
  unfold mm_gives at h
  refine xr_aload_n (in_117 rfl) rfl ?_
  refine xq_geti (in_117 rfl) (fo_117 rfl) (sh_35 n) rfl ?_
  refine xr_iconst_ _ (in_117 rfl) (show _ = (2 : Int32) by decide) ?_
  have q2314 : xm_Run pg xt (d + 1) 117 0 0 (xQ_i (sh n) r m') 13 [some (xv_r 35), some (xv_i a1), none, none] [xv_i (if (m.1 35 23) = (2 : Int32) then (0 : Int32) else a2)] (xq_2 (sh n) m) 0 0 := by
    refine xr_istore_n [some (xv_r 35), some (xv_i a1), none, some (xv_i (if (m.1 35 23) = (2 : Int32) then (0 : Int32) else a2))] (in_117 rfl) (nl_117 rfl) rfl ?_
    refine xr_aload_n (in_117 rfl) rfl ?_
    refine xr_iload_n (in_117 rfl) rfl ?_
    refine xr_iload_n (in_117 rfl) rfl ?_
    refine xq_calla [xv_r 35, xv_i a1, xv_i (if (m.1 35 23) = (2 : Int32) then (0 : Int32) else a2)] [] [some (xv_r 35), some (xv_i a1), some (xv_i (if (m.1 35 23) = (2 : Int32) then (0 : Int32) else a2))] (xk_V (in_117 rfl) (sh_35 n)) (cl_117 rfl) rfl rfl rfl rfl (mm_isThere_ok n d rfl) ?_
    by_cases c2312 : (mm_isThere a1 (if (m.1 35 23) = (2 : Int32) then (0 : Int32) else a2) m) = 0
    · replace h := (if_pos c2312).symm.trans h
      refine xr_ift 36 (in_117 rfl) rfl c2312 ?_
      refine xr_iconst_ _ (in_117 rfl) (show _ = (-1 : Int32) by decide) ?_
      obtain ⟨rfl, rfl⟩ := Prod.mk.inj (Option.some.inj h)
      exact xr_iret (kd_117) (in_117 rfl) (Nat.le_refl _) (Nat.le_refl _) ⟨rfl, rfl⟩
    · replace h := (if_neg c2312).symm.trans h
      refine xr_iff 36 (in_117 rfl) rfl c2312 ?_
      refine xr_aload_n (in_117 rfl) rfl ?_
      refine xq_getr (in_117 rfl) (fo_117 rfl) (sh_35 n) rfl ?_
      refine xr_iconst_ _ (in_117 rfl) (show _ = (4 : Int32) by decide) ?_
      refine xr_iload_n (in_117 rfl) rfl ?_
      refine xr_imul (in_117 rfl) ?_
      refine xr_iload_n (in_117 rfl) rfl ?_
      refine xr_iadd (in_117 rfl) ?_
      obtain ⟨o2313, h⟩ := xg_e h
      refine xq_iald (in_117 rfl) (sh_55 n) o2313 ?_
      refine xr_goto 37 (in_117 rfl) rfl ?_
      obtain ⟨rfl, rfl⟩ := Prod.mk.inj (Option.some.inj h)
      exact xr_iret (kd_117) (in_117 rfl) (Nat.le_refl _) (Nat.le_refl _) ⟨rfl, rfl⟩
  by_cases c2311 : (m.1 35 23) = (2 : Int32)
  · refine xr_icf 12 (in_117 rfl) rfl (fun q => q c2311) ?_
    refine xr_iconst_ _ (in_117 rfl) (show _ = (0 : Int32) by decide) ?_
    refine xr_goto 13 (in_117 rfl) rfl ?_
    refine xr_forget (loc' := [some (xv_r 35), some (xv_i a1), none, none]) (xl_s (xl_s (xl_o (xl_o xl_n)))) ?_
    rw [show (if (m.1 35 23) = (2 : Int32) then (0 : Int32) else a2) = (0 : Int32) by rw [if_pos c2311]] at q2314
    exact q2314
  · refine xr_ict 12 (in_117 rfl) rfl c2311 ?_
    refine xr_iload_n (in_117 rfl) rfl ?_
    refine xr_forget (loc' := [some (xv_r 35), some (xv_i a1), none, none]) (xl_s (xl_s (xl_o (xl_o xl_n)))) ?_
    rw [show (if (m.1 35 23) = (2 : Int32) then (0 : Int32) else a2) = a2 by rw [if_neg c2311]] at q2314
    exact q2314
def mm_next (F : Nat) (a1 : Int32) (a2 : Int32) (m : xm_S) : Option (Int32 × xm_S) := if (mm_isThere a1 a2 m) = 0 then some ((-1 : Int32), m) else xg_n (((4 : Int32) * a1) + a2) 400 (some (m.1 56 (((4 : Int32) * a1) + a2).toNatClampNeg, m))
theorem mm_next_ok {xt : Nat → Nat × (Nat → Int32)} (n d : Nat) {F : Nat} {a1 : Int32} {a2 : Int32} {m m' : xm_S} {r : Int32} (h : mm_next F a1 a2 m = some (r, m')) : xm_Run pg xt (d + 1) 119 0 0 (xQ_i (sh n) r m') 0 [some (xv_r 35), some (xv_i a1), some (xv_i a2)] [] (xq_2 (sh n) m) 0 0 := by
  unfold mm_next at h
  refine xr_aload_n (in_119 rfl) rfl ?_
  refine xr_iload_n (in_119 rfl) rfl ?_
  refine xr_iload_n (in_119 rfl) rfl ?_
  refine xq_calla [xv_r 35, xv_i a1, xv_i a2] [] [some (xv_r 35), some (xv_i a1), some (xv_i a2)] (xk_V (in_119 rfl) (sh_35 n)) (cl_119 rfl) rfl rfl rfl rfl (mm_isThere_ok n d rfl) ?_
  by_cases c2316 : (mm_isThere a1 a2 m) = 0
  · replace h := (if_pos c2316).symm.trans h
    refine xr_ift 22 (in_119 rfl) rfl c2316 ?_
    refine xr_iconst_ _ (in_119 rfl) (show _ = (-1 : Int32) by decide) ?_
    obtain ⟨rfl, rfl⟩ := Prod.mk.inj (Option.some.inj h)
    exact xr_iret (kd_119) (in_119 rfl) (Nat.le_refl _) (Nat.le_refl _) ⟨rfl, rfl⟩
  · replace h := (if_neg c2316).symm.trans h
    refine xr_iff 22 (in_119 rfl) rfl c2316 ?_
    refine xr_aload_n (in_119 rfl) rfl ?_
    refine xq_getr (in_119 rfl) (fo_119 rfl) (sh_35 n) rfl ?_
    refine xr_iconst_ _ (in_119 rfl) (show _ = (4 : Int32) by decide) ?_
    refine xr_iload_n (in_119 rfl) rfl ?_
    refine xr_imul (in_119 rfl) ?_
    refine xr_iload_n (in_119 rfl) rfl ?_
    refine xr_iadd (in_119 rfl) ?_
    obtain ⟨o2317, h⟩ := xg_e h
    refine xq_iald (in_119 rfl) (sh_56 n) o2317 ?_
    refine xr_goto 23 (in_119 rfl) rfl ?_
    obtain ⟨rfl, rfl⟩ := Prod.mk.inj (Option.some.inj h)
    exact xr_iret (kd_119) (in_119 rfl) (Nat.le_refl _) (Nat.le_refl _) ⟨rfl, rfl⟩
