/-! Methods as functions, and that they run so (written by program). -/
def mm_dual_l12 (F : Nat) (a1184 : Int32) (k : xm_S → Option (Int32 × xm_S)) : Nat → Int32 → xm_S → Option (Int32 × xm_S)
  | 0, _, _ => none
  | fu + 1, a1185, m1183 => if (28 : Int32) ≤ a1185 then k m1183 else xg_n a1185 28 (xs_m (xw_i m1183 39 a1185.toNatClampNeg (-1 : Int32)) fun m1188 => mm_dual_l12 F a1184 k fu (a1185 + (1 : Int32)) m1188)
theorem mm_dual_l12_ok {xt : Nat → Nat × (Nat → Int32)} (n d : Nat) {F : Nat} {a1184 : Int32} {k : xm_S → Option (Int32 × xm_S)} {r : Int32} {m' : xm_S} 
    (hk : ∀ (m : xm_S), k m = some (r, m') → xm_Run pg xt (d + 1) 84 0 0 (xQ_i (sh n) r m') 31 [some (xv_r 35), some (xv_i a1184), none, none, none, none, none, none, none] [] (xq_2 (sh n) m) 0 0) :
    ∀ (fu : Nat) (a1185 : Int32) (m1183 : xm_S), mm_dual_l12 F a1184 k fu a1185 m1183 = some (r, m') → xm_Run pg xt (d + 1) 84 0 0 (xQ_i (sh n) r m') 12 [some (xv_r 35), some (xv_i a1184), some (xv_i a1185), none, none, none, none, none, none] [] (xq_2 (sh n) m1183) 0 0 := by
  intro fu
  induction fu with
  | zero => intro a1185 m1183 h; cases h
  | succ fu ih =>
    intro a1185 m1183 h
    rw [mm_dual_l12] at h
    refine xr_iload_n (in_84 rfl) rfl ?_
    refine xr_bipush_ _ (in_84 rfl) (show _ = (28 : Int32) by decide) ?_
    by_cases c1186 : (28 : Int32) ≤ a1185
    · replace h := (if_pos c1186).symm.trans h
      refine xr_ict 31 (in_84 rfl) rfl c1186 ?_
      refine xr_forget (loc' := [some (xv_r 35), some (xv_i a1184), none, none, none, none, none, none, none]) (xl_s (xl_s (xl_o (xl_o (xl_o (xl_o (xl_o (xl_o (xl_o xl_n))))))))) ?_
      exact hk m1183 h
    · replace h := (if_neg c1186).symm.trans h
      refine xr_icf 31 (in_84 rfl) rfl c1186 ?_
      refine xr_aload_n (in_84 rfl) rfl ?_
      refine xq_getr (in_84 rfl) (fo_84 rfl) (sh_35 n) rfl ?_
      refine xr_iload_n (in_84 rfl) rfl ?_
      refine xr_iconst_ _ (in_84 rfl) (show _ = (-1 : Int32) by decide) ?_
      obtain ⟨o1187, h⟩ := xg_e h
      refine xq_iast (in_84 rfl) (sh_39 n) o1187 ?_
      obtain ⟨m1188, e1189, h⟩ := xs_e h
      rw [← e1189]
      clear e1189
      refine xr_iinc (a1185 + (1 : Int32)) [some (xv_r 35), some (xv_i a1184), some (xv_i (a1185 + (1 : Int32))), none, none, none, none, none, none] (in_84 rfl) rfl (xi_1 _) (nl_84 rfl) rfl ?_
      refine xr_goto 12 (in_84 rfl) rfl ?_
      exact ih (a1185 + (1 : Int32)) m1188 h
def mm_dual_l40 (F : Nat) (a1195 : Int32) (k : xm_S → Option (Int32 × xm_S)) : Nat → Int32 → xm_S → Option (Int32 × xm_S)
  | 0, _, _ => none
  | fu + 1, a1196, m1194 => if a1196 ≤ 0 then k m1194 else xg_n (a1196 - (1 : Int32)) 60 (xg_n (m1194.1 40 (a1196 - (1 : Int32)).toNatClampNeg) 28 (xj_j (fun (x1204 : Int32) => xg_n (m1194.1 40 (a1196 - (1 : Int32)).toNatClampNeg) 28 (xj_j (fun (x1213 : Int32) => xg_n (m1194.1 40 (a1196 - (1 : Int32)).toNatClampNeg) 28 (if (m1194.1 39 (m1194.1 40 (a1196 - (1 : Int32)).toNatClampNeg).toNatClampNeg) < 0 then xj_j (fun (u1267 : Unit) => xj_j (fun (x1275 : Int32) => xg_n a1196 60 (xs_m (xw_i m1194 40 a1196.toNatClampNeg x1275) fun m1280 => mm_dual_l40 F a1195 k fu (a1196 + (1 : Int32)) m1280)) fun j1276 => if x1204 = 0 then xg_n (m1194.1 40 (a1196 - (1 : Int32)).toNatClampNeg) 28 (j1276 (m1194.1 38 (m1194.1 40 (a1196 - (1 : Int32)).toNatClampNeg).toNatClampNeg)) else xg_n (m1194.1 40 (a1196 - (1 : Int32)).toNatClampNeg) 28 (j1276 (m1194.1 37 (m1194.1 40 (a1196 - (1 : Int32)).toNatClampNeg).toNatClampNeg))) fun j1268 => if x1204 = 0 then if x1213 = 0 then xg_n (m1194.1 40 (a1196 - (1 : Int32)).toNatClampNeg) 28 (xj_j (fun (x1293 : Int32) => xg_n (m1194.1 40 (a1196 - (1 : Int32)).toNatClampNeg) 28 (xj_j (fun (x1302 : Int32) => xg_n (m1194.1 40 (a1196 - (1 : Int32)).toNatClampNeg) 28 (xc_m (mm_make F (mm_dualKind (m1194.1 36 (m1194.1 40 (a1196 - (1 : Int32)).toNatClampNeg).toNatClampNeg)) x1293 x1302 m1194) fun v1307 m1308 => if 0 ≤ v1307 then xg_n (m1194.1 40 (a1196 - (1 : Int32)).toNatClampNeg) 28 (xs_m (xw_i m1308 39 (m1194.1 40 (a1196 - (1 : Int32)).toNatClampNeg).toNatClampNeg v1307) fun m1313 => mm_dual_l40 F a1195 k fu a1196 m1313) else some ((-2 : Int32), m1308))) fun j1303 => if (mm_hasTwo (m1194.1 36 (m1194.1 40 (a1196 - (1 : Int32)).toNatClampNeg).toNatClampNeg)) = 0 then j1303 (0 : Int32) else xg_n (m1194.1 40 (a1196 - (1 : Int32)).toNatClampNeg) 28 (xg_n (m1194.1 38 (m1194.1 40 (a1196 - (1 : Int32)).toNatClampNeg).toNatClampNeg) 28 (j1303 (m1194.1 39 (m1194.1 38 (m1194.1 40 (a1196 - (1 : Int32)).toNatClampNeg).toNatClampNeg).toNatClampNeg))))) fun j1294 => if (m1194.1 36 (m1194.1 40 (a1196 - (1 : Int32)).toNatClampNeg).toNatClampNeg) ≤ (3 : Int32) then xg_n (m1194.1 40 (a1196 - (1 : Int32)).toNatClampNeg) 28 (j1294 (m1194.1 37 (m1194.1 40 (a1196 - (1 : Int32)).toNatClampNeg).toNatClampNeg)) else xg_n (m1194.1 40 (a1196 - (1 : Int32)).toNatClampNeg) 28 (xg_n (m1194.1 37 (m1194.1 40 (a1196 - (1 : Int32)).toNatClampNeg).toNatClampNeg) 28 (j1294 (m1194.1 39 (m1194.1 37 (m1194.1 40 (a1196 - (1 : Int32)).toNatClampNeg).toNatClampNeg).toNatClampNeg)))) else j1268 () else j1268 () else mm_dual_l40 F a1195 k fu (a1196 + (-1 : Int32)) m1194)) fun j1214 => xj_j (fun (u1326 : Unit) => j1214 (0 : Int32)) fun j1327 => if (mm_hasTwo (m1194.1 36 (m1194.1 40 (a1196 - (1 : Int32)).toNatClampNeg).toNatClampNeg)) = 0 then j1327 () else xg_n (m1194.1 40 (a1196 - (1 : Int32)).toNatClampNeg) 28 (xg_n (m1194.1 38 (m1194.1 40 (a1196 - (1 : Int32)).toNatClampNeg).toNatClampNeg) 28 (if 0 ≤ (m1194.1 39 (m1194.1 38 (m1194.1 40 (a1196 - (1 : Int32)).toNatClampNeg).toNatClampNeg).toNatClampNeg) then j1327 () else j1214 (1 : Int32))))) fun j1205 => xj_j (fun (u1338 : Unit) => j1205 (0 : Int32)) fun j1339 => if (m1194.1 36 (m1194.1 40 (a1196 - (1 : Int32)).toNatClampNeg).toNatClampNeg) ≤ (3 : Int32) then j1339 () else xg_n (m1194.1 40 (a1196 - (1 : Int32)).toNatClampNeg) 28 (xg_n (m1194.1 37 (m1194.1 40 (a1196 - (1 : Int32)).toNatClampNeg).toNatClampNeg) 28 (if 0 ≤ (m1194.1 39 (m1194.1 37 (m1194.1 40 (a1196 - (1 : Int32)).toNatClampNeg).toNatClampNeg).toNatClampNeg) then j1339 () else j1205 (1 : Int32)))))
theorem mm_dual_l40_ok {xt : Nat → Nat × (Nat → Int32)} (n d : Nat) {F : Nat} {a1195 : Int32} {k : xm_S → Option (Int32 × xm_S)} {r : Int32} {m' : xm_S} 
    (hk : ∀ (m : xm_S), k m = some (r, m') → xm_Run pg xt (d + 1) 84 0 0 (xQ_i (sh n) r m') 273 [some (xv_r 35), some (xv_i a1195), none, none, none, none, none, none, none] [] (xq_2 (sh n) m) 0 0) :
    ∀ (fu : Nat) (a1196 : Int32) (m1194 : xm_S), mm_dual_l40 F a1195 k fu a1196 m1194 = some (r, m') → xm_Run pg xt (d + 1) 84 0 0 (xQ_i (sh n) r m') 40 [some (xv_r 35), some (xv_i a1195), some (xv_i a1196), none, none, none, none, none, none] [] (xq_2 (sh n) m1194) 0 0 := by
  intro fu
  induction fu with
  | zero => intro a1196 m1194 h; cases h
  | succ fu ih =>
    intro a1196 m1194 h
    rw [mm_dual_l40] at h
    refine xr_iload_n (in_84 rfl) rfl ?_
    by_cases c1197 : a1196 ≤ 0
    · replace h := (if_pos c1197).symm.trans h
      refine xr_ift 273 (in_84 rfl) rfl c1197 ?_
      refine xr_forget (loc' := [some (xv_r 35), some (xv_i a1195), none, none, none, none, none, none, none]) (xl_s (xl_s (xl_o (xl_o (xl_o (xl_o (xl_o (xl_o (xl_o xl_n))))))))) ?_
      exact hk m1194 h
    · replace h := (if_neg c1197).symm.trans h
      refine xr_iff 273 (in_84 rfl) rfl c1197 ?_
      refine xr_aload_n (in_84 rfl) rfl ?_
      refine xq_getr (in_84 rfl) (fo_84 rfl) (sh_35 n) rfl ?_
      refine xr_iload_n (in_84 rfl) rfl ?_
      refine xr_iconst_ _ (in_84 rfl) (show _ = (1 : Int32) by decide) ?_
      refine xr_isub (in_84 rfl) ?_
      obtain ⟨o1198, h⟩ := xg_e h
      refine xq_iald (in_84 rfl) (sh_40 n) o1198 ?_
      refine xr_istore_n [some (xv_r 35), some (xv_i a1195), some (xv_i a1196), some (xv_i (m1194.1 40 (a1196 - (1 : Int32)).toNatClampNeg)), none, none, none, none, none] (in_84 rfl) (nl_84 rfl) rfl ?_
      refine xr_aload_n (in_84 rfl) rfl ?_
      refine xq_getr (in_84 rfl) (fo_84 rfl) (sh_35 n) rfl ?_
      refine xr_iload_n (in_84 rfl) rfl ?_
      obtain ⟨o1199, h⟩ := xg_e h
      refine xq_iald (in_84 rfl) (sh_36 n) o1199 ?_
      refine xr_iconst_ _ (in_84 rfl) (show _ = (3 : Int32) by decide) ?_
      obtain ⟨j1205, e1206, h⟩ := xj_e h
      have q1207 : ∀ (x1204 : Int32), j1205 x1204 = some (r, m') → xm_Run pg xt (d + 1) 84 0 0 (xQ_i (sh n) r m') 82 [some (xv_r 35), some (xv_i a1195), some (xv_i a1196), some (xv_i (m1194.1 40 (a1196 - (1 : Int32)).toNatClampNeg)), none, none, none, none, none] [xv_i x1204] (xq_2 (sh n) m1194) 0 0 := by
        intro x1204 h
        rw [e1206] at h
        refine xr_istore [some (xv_r 35), some (xv_i a1195), some (xv_i a1196), some (xv_i (m1194.1 40 (a1196 - (1 : Int32)).toNatClampNeg)), some (xv_i x1204), none, none, none, none] (in_84 rfl) (nl_84 rfl) rfl ?_
        refine xr_aload_n (in_84 rfl) rfl ?_
        refine xq_getr (in_84 rfl) (fo_84 rfl) (sh_35 n) rfl ?_
        refine xr_iload_n (in_84 rfl) rfl ?_
        obtain ⟨o1208, h⟩ := xg_e h
        refine xq_iald (in_84 rfl) (sh_36 n) o1208 ?_
        refine xq_calla [xv_i (m1194.1 36 (m1194.1 40 (a1196 - (1 : Int32)).toNatClampNeg).toNatClampNeg)] [] [some (xv_i (m1194.1 36 (m1194.1 40 (a1196 - (1 : Int32)).toNatClampNeg).toNatClampNeg))] (xk_S (in_84 rfl)) (cl_84 rfl) rfl rfl rfl rfl (mm_hasTwo_ok n d rfl) ?_
        obtain ⟨j1214, e1215, h⟩ := xj_e h
        have q1216 : ∀ (x1213 : Int32), j1214 x1213 = some (r, m') → xm_Run pg xt (d + 1) 84 0 0 (xQ_i (sh n) r m') 115 [some (xv_r 35), some (xv_i a1195), some (xv_i a1196), some (xv_i (m1194.1 40 (a1196 - (1 : Int32)).toNatClampNeg)), some (xv_i x1204), none, none, none, none] [xv_i x1213] (xq_2 (sh n) m1194) 0 0 := by
          intro x1213 h
          rw [e1215] at h
          refine xr_istore [some (xv_r 35), some (xv_i a1195), some (xv_i a1196), some (xv_i (m1194.1 40 (a1196 - (1 : Int32)).toNatClampNeg)), some (xv_i x1204), some (xv_i x1213), none, none, none] (in_84 rfl) (nl_84 rfl) rfl ?_
          refine xr_aload_n (in_84 rfl) rfl ?_
          refine xq_getr (in_84 rfl) (fo_84 rfl) (sh_35 n) rfl ?_
          refine xr_iload_n (in_84 rfl) rfl ?_
          obtain ⟨o1217, h⟩ := xg_e h
          refine xq_iald (in_84 rfl) (sh_39 n) o1217 ?_
          by_cases c1218 : (m1194.1 39 (m1194.1 40 (a1196 - (1 : Int32)).toNatClampNeg).toNatClampNeg) < 0
          · replace h := (if_pos c1218).symm.trans h
            refine xr_ift 132 (in_84 rfl) rfl c1218 ?_
            refine xr_iload (in_84 rfl) rfl ?_
            obtain ⟨j1268, e1269, h⟩ := xj_e h
            have q1270 : ∀ (u1267 : Unit), j1268 u1267 = some (r, m') → xm_Run pg xt (d + 1) 84 0 0 (xQ_i (sh n) r m') 142 [some (xv_r 35), some (xv_i a1195), some (xv_i a1196), some (xv_i (m1194.1 40 (a1196 - (1 : Int32)).toNatClampNeg)), some (xv_i x1204), none, none, none, none] [] (xq_2 (sh n) m1194) 0 0 := by
              intro u1267 h
              rw [e1269] at h
              refine xr_aload_n (in_84 rfl) rfl ?_
              refine xq_getr (in_84 rfl) (fo_84 rfl) (sh_35 n) rfl ?_
              refine xr_iload_n (in_84 rfl) rfl ?_
              refine xr_iload (in_84 rfl) rfl ?_
              obtain ⟨j1276, e1277, h⟩ := xj_e h
              have q1278 : ∀ (x1275 : Int32), j1276 x1275 = some (r, m') → xm_Run pg xt (d + 1) 84 0 0 (xQ_i (sh n) r m') 167 [some (xv_r 35), some (xv_i a1195), some (xv_i a1196), none, none, none, none, none, none] [xv_i x1275, xv_i a1196, xv_r 40] (xq_2 (sh n) m1194) 0 0 := by
                intro x1275 h
                rw [e1277] at h
                obtain ⟨o1279, h⟩ := xg_e h
                refine xq_iast (in_84 rfl) (sh_40 n) o1279 ?_
                obtain ⟨m1280, e1281, h⟩ := xs_e h
                rw [← e1281]
                clear e1281
                refine xr_iinc (a1196 + (1 : Int32)) [some (xv_r 35), some (xv_i a1195), some (xv_i (a1196 + (1 : Int32))), none, none, none, none, none, none] (in_84 rfl) rfl (xi_1 _) (nl_84 rfl) rfl ?_
                refine xr_goto 270 (in_84 rfl) rfl ?_
                refine xr_goto 40 (in_84 rfl) rfl ?_
                exact ih (a1196 + (1 : Int32)) m1280 h
              clear e1277
              by_cases c1282 : x1204 = 0
              · replace h := (if_pos c1282).symm.trans h
                refine xr_ift 161 (in_84 rfl) rfl c1282 ?_
                refine xr_aload_n (in_84 rfl) rfl ?_
                refine xq_getr (in_84 rfl) (fo_84 rfl) (sh_35 n) rfl ?_
                refine xr_iload_n (in_84 rfl) rfl ?_
                obtain ⟨o1283, h⟩ := xg_e h
                refine xq_iald (in_84 rfl) (sh_38 n) o1283 ?_
                refine xr_forget (loc' := [some (xv_r 35), some (xv_i a1195), some (xv_i a1196), none, none, none, none, none, none]) (xl_s (xl_s (xl_s (xl_o (xl_o (xl_o (xl_o (xl_o (xl_o xl_n))))))))) ?_
                exact q1278 (m1194.1 38 (m1194.1 40 (a1196 - (1 : Int32)).toNatClampNeg).toNatClampNeg) h
              · replace h := (if_neg c1282).symm.trans h
                refine xr_iff 161 (in_84 rfl) rfl c1282 ?_
                refine xr_aload_n (in_84 rfl) rfl ?_
                refine xq_getr (in_84 rfl) (fo_84 rfl) (sh_35 n) rfl ?_
                refine xr_iload_n (in_84 rfl) rfl ?_
                obtain ⟨o1284, h⟩ := xg_e h
                refine xq_iald (in_84 rfl) (sh_37 n) o1284 ?_
                refine xr_goto 167 (in_84 rfl) rfl ?_
                refine xr_forget (loc' := [some (xv_r 35), some (xv_i a1195), some (xv_i a1196), none, none, none, none, none, none]) (xl_s (xl_s (xl_s (xl_o (xl_o (xl_o (xl_o (xl_o (xl_o xl_n))))))))) ?_
                exact q1278 (m1194.1 37 (m1194.1 40 (a1196 - (1 : Int32)).toNatClampNeg).toNatClampNeg) h
            clear e1269
            by_cases c1285 : x1204 = 0
            · replace h := (if_pos c1285).symm.trans h
              refine xr_iff 142 (in_84 rfl) rfl (fun q => q c1285) ?_
              refine xr_iload (in_84 rfl) rfl ?_
              by_cases c1286 : x1213 = 0
              · replace h := (if_pos c1286).symm.trans h
                refine xr_ift 174 (in_84 rfl) rfl c1286 ?_
                refine xr_aload_n (in_84 rfl) rfl ?_
                refine xq_getr (in_84 rfl) (fo_84 rfl) (sh_35 n) rfl ?_
                refine xr_iload_n (in_84 rfl) rfl ?_
                obtain ⟨o1287, h⟩ := xg_e h
                refine xq_iald (in_84 rfl) (sh_36 n) o1287 ?_
                refine xr_iconst_ _ (in_84 rfl) (show _ = (3 : Int32) by decide) ?_
                obtain ⟨j1294, e1295, h⟩ := xj_e h
                have q1296 : ∀ (x1293 : Int32), j1294 x1293 = some (r, m') → xm_Run pg xt (d + 1) 84 0 0 (xQ_i (sh n) r m') 204 [some (xv_r 35), some (xv_i a1195), some (xv_i a1196), some (xv_i (m1194.1 40 (a1196 - (1 : Int32)).toNatClampNeg)), none, none, none, none, none] [xv_i x1293] (xq_2 (sh n) m1194) 0 0 := by
                  intro x1293 h
                  rw [e1295] at h
                  refine xr_istore [some (xv_r 35), some (xv_i a1195), some (xv_i a1196), some (xv_i (m1194.1 40 (a1196 - (1 : Int32)).toNatClampNeg)), none, none, some (xv_i x1293), none, none] (in_84 rfl) (nl_84 rfl) rfl ?_
                  refine xr_aload_n (in_84 rfl) rfl ?_
                  refine xq_getr (in_84 rfl) (fo_84 rfl) (sh_35 n) rfl ?_
                  refine xr_iload_n (in_84 rfl) rfl ?_
                  obtain ⟨o1297, h⟩ := xg_e h
                  refine xq_iald (in_84 rfl) (sh_36 n) o1297 ?_
                  refine xq_calla [xv_i (m1194.1 36 (m1194.1 40 (a1196 - (1 : Int32)).toNatClampNeg).toNatClampNeg)] [] [some (xv_i (m1194.1 36 (m1194.1 40 (a1196 - (1 : Int32)).toNatClampNeg).toNatClampNeg))] (xk_S (in_84 rfl)) (cl_84 rfl) rfl rfl rfl rfl (mm_hasTwo_ok n d rfl) ?_
                  obtain ⟨j1303, e1304, h⟩ := xj_e h
                  have q1305 : ∀ (x1302 : Int32), j1303 x1302 = some (r, m') → xm_Run pg xt (d + 1) 84 0 0 (xQ_i (sh n) r m') 233 [some (xv_r 35), some (xv_i a1195), some (xv_i a1196), some (xv_i (m1194.1 40 (a1196 - (1 : Int32)).toNatClampNeg)), none, none, some (xv_i x1293), none, none] [xv_i x1302] (xq_2 (sh n) m1194) 0 0 := by
                    intro x1302 h
                    rw [e1304] at h
                    refine xr_istore [some (xv_r 35), some (xv_i a1195), some (xv_i a1196), some (xv_i (m1194.1 40 (a1196 - (1 : Int32)).toNatClampNeg)), none, none, some (xv_i x1293), some (xv_i x1302), none] (in_84 rfl) (nl_84 rfl) rfl ?_
                    refine xr_aload_n (in_84 rfl) rfl ?_
                    refine xr_aload_n (in_84 rfl) rfl ?_
                    refine xq_getr (in_84 rfl) (fo_84 rfl) (sh_35 n) rfl ?_
                    refine xr_iload_n (in_84 rfl) rfl ?_
                    obtain ⟨o1306, h⟩ := xg_e h
                    refine xq_iald (in_84 rfl) (sh_36 n) o1306 ?_
                    refine xq_calla [xv_i (m1194.1 36 (m1194.1 40 (a1196 - (1 : Int32)).toNatClampNeg).toNatClampNeg)] [xv_r 35] [some (xv_i (m1194.1 36 (m1194.1 40 (a1196 - (1 : Int32)).toNatClampNeg).toNatClampNeg))] (xk_S (in_84 rfl)) (cl_84 rfl) rfl rfl rfl rfl (mm_dualKind_ok n d rfl) ?_
                    refine xr_iload (in_84 rfl) rfl ?_
                    refine xr_iload (in_84 rfl) rfl ?_
                    obtain ⟨v1307, m1308, e1309, h⟩ := xc_m_e h
                    refine xq_calla [xv_r 35, xv_i (mm_dualKind (m1194.1 36 (m1194.1 40 (a1196 - (1 : Int32)).toNatClampNeg).toNatClampNeg)), xv_i x1293, xv_i x1302] [] [some (xv_r 35), some (xv_i (mm_dualKind (m1194.1 36 (m1194.1 40 (a1196 - (1 : Int32)).toNatClampNeg).toNatClampNeg))), some (xv_i x1293), some (xv_i x1302), none] (xk_V (in_84 rfl) (sh_35 n)) (cl_84 rfl) rfl rfl rfl rfl (mm_make_ok n d e1309) ?_
                    refine xr_istore [some (xv_r 35), some (xv_i a1195), some (xv_i a1196), some (xv_i (m1194.1 40 (a1196 - (1 : Int32)).toNatClampNeg)), none, none, some (xv_i x1293), some (xv_i x1302), some (xv_i v1307)] (in_84 rfl) (nl_84 rfl) rfl ?_
                    refine xr_iload (in_84 rfl) rfl ?_
                    by_cases c1311 : 0 ≤ v1307
                    · replace h := (if_pos c1311).symm.trans h
                      refine xr_ift 262 (in_84 rfl) rfl c1311 ?_
                      refine xr_aload_n (in_84 rfl) rfl ?_
                      refine xq_getr (in_84 rfl) (fo_84 rfl) (sh_35 n) rfl ?_
                      refine xr_iload_n (in_84 rfl) rfl ?_
                      refine xr_iload (in_84 rfl) rfl ?_
                      obtain ⟨o1312, h⟩ := xg_e h
                      refine xq_iast (in_84 rfl) (sh_39 n) o1312 ?_
                      obtain ⟨m1313, e1314, h⟩ := xs_e h
                      rw [← e1314]
                      clear e1314
                      refine xr_goto 40 (in_84 rfl) rfl ?_
                      refine xr_forget (loc' := [some (xv_r 35), some (xv_i a1195), some (xv_i a1196), none, none, none, none, none, none]) (xl_s (xl_s (xl_s (xl_o (xl_o (xl_o (xl_o (xl_o (xl_o xl_n))))))))) ?_
                      exact ih a1196 m1313 h
                    · replace h := (if_neg c1311).symm.trans h
                      refine xr_iff 262 (in_84 rfl) rfl c1311 ?_
                      refine xr_bipush_ _ (in_84 rfl) (show _ = (-2 : Int32) by decide) ?_
                      obtain ⟨rfl, rfl⟩ := Prod.mk.inj (Option.some.inj h)
                      exact xr_iret (kd_84) (in_84 rfl) (Nat.le_refl _) (Nat.le_refl _) ⟨rfl, rfl⟩
                  clear e1304
                  by_cases c1315 : (mm_hasTwo (m1194.1 36 (m1194.1 40 (a1196 - (1 : Int32)).toNatClampNeg).toNatClampNeg)) = 0
                  · replace h := (if_pos c1315).symm.trans h
                    refine xr_ift 232 (in_84 rfl) rfl c1315 ?_
                    refine xr_iconst_ _ (in_84 rfl) (show _ = (0 : Int32) by decide) ?_
                    exact q1305 (0 : Int32) h
                  · replace h := (if_neg c1315).symm.trans h
                    refine xr_iff 232 (in_84 rfl) rfl c1315 ?_
                    refine xr_aload_n (in_84 rfl) rfl ?_
                    refine xq_getr (in_84 rfl) (fo_84 rfl) (sh_35 n) rfl ?_
                    refine xr_aload_n (in_84 rfl) rfl ?_
                    refine xq_getr (in_84 rfl) (fo_84 rfl) (sh_35 n) rfl ?_
                    refine xr_iload_n (in_84 rfl) rfl ?_
                    obtain ⟨o1316, h⟩ := xg_e h
                    refine xq_iald (in_84 rfl) (sh_38 n) o1316 ?_
                    obtain ⟨o1317, h⟩ := xg_e h
                    refine xq_iald (in_84 rfl) (sh_39 n) o1317 ?_
                    refine xr_goto 233 (in_84 rfl) rfl ?_
                    exact q1305 (m1194.1 39 (m1194.1 38 (m1194.1 40 (a1196 - (1 : Int32)).toNatClampNeg).toNatClampNeg).toNatClampNeg) h
                clear e1295
                by_cases c1318 : (m1194.1 36 (m1194.1 40 (a1196 - (1 : Int32)).toNatClampNeg).toNatClampNeg) ≤ (3 : Int32)
                · replace h := (if_pos c1318).symm.trans h
                  refine xr_ict 198 (in_84 rfl) rfl c1318 ?_
                  refine xr_aload_n (in_84 rfl) rfl ?_
                  refine xq_getr (in_84 rfl) (fo_84 rfl) (sh_35 n) rfl ?_
                  refine xr_iload_n (in_84 rfl) rfl ?_
                  obtain ⟨o1319, h⟩ := xg_e h
                  refine xq_iald (in_84 rfl) (sh_37 n) o1319 ?_
                  refine xr_forget (loc' := [some (xv_r 35), some (xv_i a1195), some (xv_i a1196), some (xv_i (m1194.1 40 (a1196 - (1 : Int32)).toNatClampNeg)), none, none, none, none, none]) (xl_s (xl_s (xl_s (xl_s (xl_o (xl_o (xl_o (xl_o (xl_o xl_n))))))))) ?_
                  exact q1296 (m1194.1 37 (m1194.1 40 (a1196 - (1 : Int32)).toNatClampNeg).toNatClampNeg) h
                · replace h := (if_neg c1318).symm.trans h
                  refine xr_icf 198 (in_84 rfl) rfl c1318 ?_
                  refine xr_aload_n (in_84 rfl) rfl ?_
                  refine xq_getr (in_84 rfl) (fo_84 rfl) (sh_35 n) rfl ?_
                  refine xr_aload_n (in_84 rfl) rfl ?_
                  refine xq_getr (in_84 rfl) (fo_84 rfl) (sh_35 n) rfl ?_
                  refine xr_iload_n (in_84 rfl) rfl ?_
                  obtain ⟨o1320, h⟩ := xg_e h
                  refine xq_iald (in_84 rfl) (sh_37 n) o1320 ?_
                  obtain ⟨o1321, h⟩ := xg_e h
                  refine xq_iald (in_84 rfl) (sh_39 n) o1321 ?_
                  refine xr_goto 204 (in_84 rfl) rfl ?_
                  refine xr_forget (loc' := [some (xv_r 35), some (xv_i a1195), some (xv_i a1196), some (xv_i (m1194.1 40 (a1196 - (1 : Int32)).toNatClampNeg)), none, none, none, none, none]) (xl_s (xl_s (xl_s (xl_s (xl_o (xl_o (xl_o (xl_o (xl_o xl_n))))))))) ?_
                  exact q1296 (m1194.1 39 (m1194.1 37 (m1194.1 40 (a1196 - (1 : Int32)).toNatClampNeg).toNatClampNeg).toNatClampNeg) h
              · replace h := (if_neg c1286).symm.trans h
                refine xr_iff 174 (in_84 rfl) rfl c1286 ?_
                refine xr_forget (loc' := [some (xv_r 35), some (xv_i a1195), some (xv_i a1196), some (xv_i (m1194.1 40 (a1196 - (1 : Int32)).toNatClampNeg)), some (xv_i x1204), none, none, none, none]) (xl_s (xl_s (xl_s (xl_s (xl_s (xl_o (xl_o (xl_o (xl_o xl_n))))))))) ?_
                exact q1270 () h
            · replace h := (if_neg c1285).symm.trans h
              refine xr_ift 142 (in_84 rfl) rfl c1285 ?_
              refine xr_forget (loc' := [some (xv_r 35), some (xv_i a1195), some (xv_i a1196), some (xv_i (m1194.1 40 (a1196 - (1 : Int32)).toNatClampNeg)), some (xv_i x1204), none, none, none, none]) (xl_s (xl_s (xl_s (xl_s (xl_s (xl_o (xl_o (xl_o (xl_o xl_n))))))))) ?_
              exact q1270 () h
          · replace h := (if_neg c1218).symm.trans h
            refine xr_iff 132 (in_84 rfl) rfl c1218 ?_
            refine xr_iinc (a1196 + (-1 : Int32)) [some (xv_r 35), some (xv_i a1195), some (xv_i (a1196 + (-1 : Int32))), some (xv_i (m1194.1 40 (a1196 - (1 : Int32)).toNatClampNeg)), some (xv_i x1204), some (xv_i x1213), none, none, none] (in_84 rfl) rfl (xi_m1 _) (nl_84 rfl) rfl ?_
            refine xr_goto 270 (in_84 rfl) rfl ?_
            refine xr_goto 40 (in_84 rfl) rfl ?_
            refine xr_forget (loc' := [some (xv_r 35), some (xv_i a1195), some (xv_i (a1196 + (-1 : Int32))), none, none, none, none, none, none]) (xl_s (xl_s (xl_s (xl_o (xl_o (xl_o (xl_o (xl_o (xl_o xl_n))))))))) ?_
            exact ih (a1196 + (-1 : Int32)) m1194 h
        clear e1215
        obtain ⟨j1327, e1328, h⟩ := xj_e h
        have q1329 : ∀ (u1326 : Unit), j1327 u1326 = some (r, m') → xm_Run pg xt (d + 1) 84 0 0 (xQ_i (sh n) r m') 114 [some (xv_r 35), some (xv_i a1195), some (xv_i a1196), some (xv_i (m1194.1 40 (a1196 - (1 : Int32)).toNatClampNeg)), some (xv_i x1204), none, none, none, none] [] (xq_2 (sh n) m1194) 0 0 := by
          intro u1326 h
          rw [e1328] at h
          refine xr_iconst_ _ (in_84 rfl) (show _ = (0 : Int32) by decide) ?_
          exact q1216 (0 : Int32) h
        clear e1328
        by_cases c1330 : (mm_hasTwo (m1194.1 36 (m1194.1 40 (a1196 - (1 : Int32)).toNatClampNeg).toNatClampNeg)) = 0
        · replace h := (if_pos c1330).symm.trans h
          refine xr_ift 114 (in_84 rfl) rfl c1330 ?_
          exact q1329 () h
        · replace h := (if_neg c1330).symm.trans h
          refine xr_iff 114 (in_84 rfl) rfl c1330 ?_
          refine xr_aload_n (in_84 rfl) rfl ?_
          refine xq_getr (in_84 rfl) (fo_84 rfl) (sh_35 n) rfl ?_
          refine xr_aload_n (in_84 rfl) rfl ?_
          refine xq_getr (in_84 rfl) (fo_84 rfl) (sh_35 n) rfl ?_
          refine xr_iload_n (in_84 rfl) rfl ?_
          obtain ⟨o1331, h⟩ := xg_e h
          refine xq_iald (in_84 rfl) (sh_38 n) o1331 ?_
          obtain ⟨o1332, h⟩ := xg_e h
          refine xq_iald (in_84 rfl) (sh_39 n) o1332 ?_
          by_cases c1333 : 0 ≤ (m1194.1 39 (m1194.1 38 (m1194.1 40 (a1196 - (1 : Int32)).toNatClampNeg).toNatClampNeg).toNatClampNeg)
          · replace h := (if_pos c1333).symm.trans h
            refine xr_ift 114 (in_84 rfl) rfl c1333 ?_
            exact q1329 () h
          · replace h := (if_neg c1333).symm.trans h
            refine xr_iff 114 (in_84 rfl) rfl c1333 ?_
            refine xr_iconst_ _ (in_84 rfl) (show _ = (1 : Int32) by decide) ?_
            refine xr_goto 115 (in_84 rfl) rfl ?_
            exact q1216 (1 : Int32) h
      clear e1206
      obtain ⟨j1339, e1340, h⟩ := xj_e h
      have q1341 : ∀ (u1338 : Unit), j1339 u1338 = some (r, m') → xm_Run pg xt (d + 1) 84 0 0 (xQ_i (sh n) r m') 81 [some (xv_r 35), some (xv_i a1195), some (xv_i a1196), some (xv_i (m1194.1 40 (a1196 - (1 : Int32)).toNatClampNeg)), none, none, none, none, none] [] (xq_2 (sh n) m1194) 0 0 := by
        intro u1338 h
        rw [e1340] at h
        refine xr_iconst_ _ (in_84 rfl) (show _ = (0 : Int32) by decide) ?_
        exact q1207 (0 : Int32) h
      clear e1340
      by_cases c1342 : (m1194.1 36 (m1194.1 40 (a1196 - (1 : Int32)).toNatClampNeg).toNatClampNeg) ≤ (3 : Int32)
      · replace h := (if_pos c1342).symm.trans h
        refine xr_ict 81 (in_84 rfl) rfl c1342 ?_
        exact q1341 () h
      · replace h := (if_neg c1342).symm.trans h
        refine xr_icf 81 (in_84 rfl) rfl c1342 ?_
        refine xr_aload_n (in_84 rfl) rfl ?_
        refine xq_getr (in_84 rfl) (fo_84 rfl) (sh_35 n) rfl ?_
        refine xr_aload_n (in_84 rfl) rfl ?_
        refine xq_getr (in_84 rfl) (fo_84 rfl) (sh_35 n) rfl ?_
        refine xr_iload_n (in_84 rfl) rfl ?_
        obtain ⟨o1343, h⟩ := xg_e h
        refine xq_iald (in_84 rfl) (sh_37 n) o1343 ?_
        obtain ⟨o1344, h⟩ := xg_e h
        refine xq_iald (in_84 rfl) (sh_39 n) o1344 ?_
        by_cases c1345 : 0 ≤ (m1194.1 39 (m1194.1 37 (m1194.1 40 (a1196 - (1 : Int32)).toNatClampNeg).toNatClampNeg).toNatClampNeg)
        · replace h := (if_pos c1345).symm.trans h
          refine xr_ift 81 (in_84 rfl) rfl c1345 ?_
          exact q1341 () h
        · replace h := (if_neg c1345).symm.trans h
          refine xr_iff 81 (in_84 rfl) rfl c1345 ?_
          refine xr_iconst_ _ (in_84 rfl) (show _ = (1 : Int32) by decide) ?_
          refine xr_goto 82 (in_84 rfl) rfl ?_
          exact q1207 (1 : Int32) h
def mm_dual (F : Nat) (a1 : Int32) (m : xm_S) : Option (Int32 × xm_S) := if (mm_isFormula a1 m) = 0 then some ((-1 : Int32), m) else mm_dual_l12 F a1 (fun (m1190 : xm_S) => xg_n (0 : Int32) 60 (xs_m (xw_i m1190 40 (0 : Int32).toNatClampNeg a1) fun m1192 => mm_dual_l40 F a1 (fun (m1346 : xm_S) => xg_n a1 28 (some (m1346.1 39 a1.toNatClampNeg, m1346))) F (1 : Int32) m1192)) F (0 : Int32) m
theorem mm_dual_ok {xt : Nat → Nat × (Nat → Int32)} (n d : Nat) {F : Nat} {a1 : Int32} {m m' : xm_S} {r : Int32} (h : mm_dual F a1 m = some (r, m')) : xm_Run pg xt (d + 1) 84 0 0 (xQ_i (sh n) r m') 0 [some (xv_r 35), some (xv_i a1), none, none, none, none, none, none, none] [] (xq_2 (sh n) m) 0 0 := by
  unfold mm_dual at h
  refine xr_aload_n (in_84 rfl) rfl ?_
  refine xr_iload_n (in_84 rfl) rfl ?_
  refine xq_calla [xv_r 35, xv_i a1] [] [some (xv_r 35), some (xv_i a1)] (xk_V (in_84 rfl) (sh_35 n)) (cl_84 rfl) rfl rfl rfl rfl (mm_isFormula_ok n d rfl) ?_
  by_cases c1182 : (mm_isFormula a1 m) = 0
  · replace h := (if_pos c1182).symm.trans h
    refine xr_iff 10 (in_84 rfl) rfl (fun q => q c1182) ?_
    refine xr_iconst_ _ (in_84 rfl) (show _ = (-1 : Int32) by decide) ?_
    obtain ⟨rfl, rfl⟩ := Prod.mk.inj (Option.some.inj h)
    exact xr_iret (kd_84) (in_84 rfl) (Nat.le_refl _) (Nat.le_refl _) ⟨rfl, rfl⟩
  · replace h := (if_neg c1182).symm.trans h
    refine xr_ift 10 (in_84 rfl) rfl c1182 ?_
    refine xr_iconst_ _ (in_84 rfl) (show _ = (0 : Int32) by decide) ?_
    refine xr_istore_n [some (xv_r 35), some (xv_i a1), some (xv_i (0 : Int32)), none, none, none, none, none, none] (in_84 rfl) (nl_84 rfl) rfl ?_
    refine mm_dual_l12_ok n d (fun m1190 h => ?_) F (0 : Int32) m h
    refine xr_iconst_ _ (in_84 rfl) (show _ = (1 : Int32) by decide) ?_
    refine xr_istore_n [some (xv_r 35), some (xv_i a1), some (xv_i (1 : Int32)), none, none, none, none, none, none] (in_84 rfl) (nl_84 rfl) rfl ?_
    refine xr_aload_n (in_84 rfl) rfl ?_
    refine xq_getr (in_84 rfl) (fo_84 rfl) (sh_35 n) rfl ?_
    refine xr_iconst_ _ (in_84 rfl) (show _ = (0 : Int32) by decide) ?_
    refine xr_iload_n (in_84 rfl) rfl ?_
    obtain ⟨o1191, h⟩ := xg_e h
    refine xq_iast (in_84 rfl) (sh_40 n) o1191 ?_
    obtain ⟨m1192, e1193, h⟩ := xs_e h
    rw [← e1193]
    clear e1193
    refine mm_dual_l40_ok n d (fun m1346 h => ?_) F (1 : Int32) m1192 h
    refine xr_aload_n (in_84 rfl) rfl ?_
    refine xq_getr (in_84 rfl) (fo_84 rfl) (sh_35 n) rfl ?_
    refine xr_iload_n (in_84 rfl) rfl ?_
    obtain ⟨o1347, h⟩ := xg_e h
    refine xq_iald (in_84 rfl) (sh_39 n) o1347 ?_
    obtain ⟨rfl, rfl⟩ := Prod.mk.inj (Option.some.inj h)
    exact xr_iret (kd_84) (in_84 rfl) (Nat.le_refl _) (Nat.le_refl _) ⟨rfl, rfl⟩
def mm_formulas (m : xm_S) : Int32 := m.1 35 0
theorem mm_formulas_ok {xt : Nat → Nat × (Nat → Int32)} (n d : Nat) {m : xm_S} {r : Int32} (h : mm_formulas  m = r) : xm_Run pg xt d 86 0 0 (xQ_i (sh n) r m) 0 [some (xv_r 35)] [] (xq_2 (sh n) m) 0 0 := by
  unfold mm_formulas at h
  refine xr_aload_n (in_86 rfl) rfl ?_
  refine xq_geti (in_86 rfl) (fo_86 rfl) (sh_35 n) rfl ?_
  subst h
  exact xr_iret (kd_86) (in_86 rfl) (Nat.le_refl _) (Nat.le_refl _) ⟨rfl, rfl⟩
def mm_letterAt (a1 : Int64) (a2 : Int32) (a3 : Int64) (a4 : Int32) : Int32 := if a2 ≤ a4 then ((a3 >>> (((4 : Int32) * (a4 - a2)).toInt64 &&& 63)) &&& (15 : Int64)).toInt32 else ((a1 >>> (((4 : Int32) * a4).toInt64 &&& 63)) &&& (15 : Int64)).toInt32
theorem mm_letterAt_ok {xt : Nat → Nat × (Nat → Int32)} (n d : Nat) {a1 : Int64} {a2 : Int32} {a3 : Int64} {a4 : Int32} {m : xm_S} {r : Int32} (h : mm_letterAt a1 a2 a3 a4 = r) : xm_Run pg xt d 88 0 0 (xQ_i (sh n) r m) 0 [some (xv_r 35), some (xv_l a1), none, some (xv_i a2), some (xv_l a3), none, some (xv_i a4)] [] (xq_2 (sh n) m) 0 0 := by
  unfold mm_letterAt at h
  refine xr_iload (in_88 rfl) rfl ?_
  refine xr_iload_n (in_88 rfl) rfl ?_
  by_cases c1402 : a2 ≤ a4
  · replace h := (if_pos c1402).symm.trans h
    refine xr_ict 19 (in_88 rfl) rfl c1402 ?_
    refine xr_lload (in_88 rfl) rfl ?_
    refine xr_iconst_ _ (in_88 rfl) (show _ = (4 : Int32) by decide) ?_
    refine xr_iload (in_88 rfl) rfl ?_
    refine xr_iload_n (in_88 rfl) rfl ?_
    refine xr_isub (in_88 rfl) ?_
    refine xr_imul (in_88 rfl) ?_
    refine xr_lshr (in_88 rfl) ?_
    refine xr_ldc2 (in_88 rfl) (ko_88 rfl) ?_
    refine xr_land (in_88 rfl) ?_
    refine xr_l2i (in_88 rfl) ?_
    subst h
    exact xr_iret (kd_88) (in_88 rfl) (Nat.le_refl _) (Nat.le_refl _) ⟨rfl, rfl⟩
  · replace h := (if_neg c1402).symm.trans h
    refine xr_icf 19 (in_88 rfl) rfl c1402 ?_
    refine xr_lload_n (in_88 rfl) rfl ?_
    refine xr_iconst_ _ (in_88 rfl) (show _ = (4 : Int32) by decide) ?_
    refine xr_iload (in_88 rfl) rfl ?_
    refine xr_imul (in_88 rfl) ?_
    refine xr_lshr (in_88 rfl) ?_
    refine xr_ldc2 (in_88 rfl) (ko_88 rfl) ?_
    refine xr_land (in_88 rfl) ?_
    refine xr_goto 32 (in_88 rfl) rfl ?_
    refine xr_l2i (in_88 rfl) ?_
    subst h
    exact xr_iret (kd_88) (in_88 rfl) (Nat.le_refl _) (Nat.le_refl _) ⟨rfl, rfl⟩
def mm_ahead (a0 : Int32) (a1 : Int32) (a2 : Int32) : Int32 := ((a0 >>> ((1 : Int32) &&& 31)) &&& (((1 : Int32) <<< ((a2 - (1 : Int32)) &&& 31)) - (1 : Int32))) ||| (((a0 >>> (a1 &&& 31)) &&& (1 : Int32)) <<< ((a2 - (1 : Int32)) &&& 31))
theorem mm_ahead_ok {xt : Nat → Nat × (Nat → Int32)} (n d : Nat) {a0 : Int32} {a1 : Int32} {a2 : Int32} {m : xm_S} {r : Int32} (h : mm_ahead a0 a1 a2 = r) : xm_Run pg xt d 89 0 0 (xQ_i (sh n) r m) 0 [some (xv_i a0), some (xv_i a1), some (xv_i a2), none] [] (xq_2 (sh n) m) 0 0 := by
  unfold mm_ahead at h
  refine xr_iload_n (in_89 rfl) rfl ?_
  refine xr_iload_n (in_89 rfl) rfl ?_
  refine xr_ishr (in_89 rfl) ?_
  refine xr_iconst_ _ (in_89 rfl) (show _ = (1 : Int32) by decide) ?_
  refine xr_iand (in_89 rfl) ?_
  refine xr_iload_n (in_89 rfl) rfl ?_
  refine xr_iconst_ _ (in_89 rfl) (show _ = (1 : Int32) by decide) ?_
  refine xr_isub (in_89 rfl) ?_
  refine xr_ishl (in_89 rfl) ?_
  refine xr_istore_n [some (xv_i a0), some (xv_i a1), some (xv_i a2), some (xv_i (((a0 >>> (a1 &&& 31)) &&& (1 : Int32)) <<< ((a2 - (1 : Int32)) &&& 31)))] (in_89 rfl) (nl_89 rfl) rfl ?_
  refine xr_iload_n (in_89 rfl) rfl ?_
  refine xr_iconst_ _ (in_89 rfl) (show _ = (1 : Int32) by decide) ?_
  refine xr_ishr (in_89 rfl) ?_
  refine xr_iconst_ _ (in_89 rfl) (show _ = (1 : Int32) by decide) ?_
  refine xr_iload_n (in_89 rfl) rfl ?_
  refine xr_iconst_ _ (in_89 rfl) (show _ = (1 : Int32) by decide) ?_
  refine xr_isub (in_89 rfl) ?_
  refine xr_ishl (in_89 rfl) ?_
  refine xr_iconst_ _ (in_89 rfl) (show _ = (1 : Int32) by decide) ?_
  refine xr_isub (in_89 rfl) ?_
  refine xr_iand (in_89 rfl) ?_
  refine xr_iload_n (in_89 rfl) rfl ?_
  refine xr_ior (in_89 rfl) ?_
  subst h
  exact xr_iret (kd_89) (in_89 rfl) (Nat.le_refl _) (Nat.le_refl _) ⟨rfl, rfl⟩
def mm_fixed_l19 (F : Nat) (a1435 : Int32) (a1436 : Int32) (a1437 : Int32) (a1438 : Int32) (a1439 : Int32) (k : Int32 → xm_S → Option (Int32 × xm_S)) : Nat → Int32 → Int32 → xm_S → Option (Int32 × xm_S)
  | 0, _, _, _ => none
  | fu + 1, a1440, a1441, m1434 => if a1439 < a1441 then k a1440 m1434 else if a1437 = 0 then mm_fixed_l19 F a1435 a1436 a1437 a1438 a1439 k fu (a1436 &&& (a1435 ||| (mm_ahead a1440 a1438 a1439))) (a1441 + (1 : Int32)) m1434 else mm_fixed_l19 F a1435 a1436 a1437 a1438 a1439 k fu (a1436 ||| (a1435 &&& (mm_ahead a1440 a1438 a1439))) (a1441 + (1 : Int32)) m1434
theorem mm_fixed_l19_ok {xt : Nat → Nat × (Nat → Int32)} (n d : Nat) {F : Nat} {a1435 : Int32} {a1436 : Int32} {a1437 : Int32} {a1438 : Int32} {a1439 : Int32} {k : Int32 → xm_S → Option (Int32 × xm_S)} {r : Int32} {m' : xm_S} 
    (hk : ∀ (z6 : Int32) (m : xm_S), k z6 m = some (r, m') → xm_Run pg xt (d + 1) 90 0 0 (xQ_i (sh n) r m') 67 [none, none, none, none, none, none, some (xv_i z6), none] [] (xq_2 (sh n) m) 0 0) :
    ∀ (fu : Nat) (a1440 : Int32) (a1441 : Int32) (m1434 : xm_S), mm_fixed_l19 F a1435 a1436 a1437 a1438 a1439 k fu a1440 a1441 m1434 = some (r, m') → xm_Run pg xt (d + 1) 90 0 0 (xQ_i (sh n) r m') 19 [none, some (xv_i a1435), some (xv_i a1436), some (xv_i a1437), some (xv_i a1438), some (xv_i a1439), some (xv_i a1440), some (xv_i a1441)] [] (xq_2 (sh n) m1434) 0 0 := by
  intro fu
  induction fu with
  | zero => intro a1440 a1441 m1434 h; cases h
  | succ fu ih =>
    intro a1440 a1441 m1434 h
    rw [mm_fixed_l19] at h
    refine xr_iload (in_90 rfl) rfl ?_
    refine xr_iload (in_90 rfl) rfl ?_
    by_cases c1442 : a1439 < a1441
    · replace h := (if_pos c1442).symm.trans h
      refine xr_ict 67 (in_90 rfl) rfl c1442 ?_
      refine xr_forget (loc' := [none, none, none, none, none, none, some (xv_i a1440), none]) (xl_o (xl_o (xl_o (xl_o (xl_o (xl_o (xl_s (xl_o xl_n)))))))) ?_
      exact hk a1440 m1434 h
    · replace h := (if_neg c1442).symm.trans h
      refine xr_icf 67 (in_90 rfl) rfl c1442 ?_
      refine xr_iload_n (in_90 rfl) rfl ?_
      by_cases c1443 : a1437 = 0
      · replace h := (if_pos c1443).symm.trans h
        refine xr_ift 46 (in_90 rfl) rfl c1443 ?_
        refine xr_iload_n (in_90 rfl) rfl ?_
        refine xr_iload_n (in_90 rfl) rfl ?_
        refine xr_iload (in_90 rfl) rfl ?_
        refine xr_iload (in_90 rfl) rfl ?_
        refine xr_iload (in_90 rfl) rfl ?_
        refine xq_calla [xv_i a1440, xv_i a1438, xv_i a1439] [xv_i a1435, xv_i a1436] [some (xv_i a1440), some (xv_i a1438), some (xv_i a1439), none] (xk_S (in_90 rfl)) (cl_90 rfl) rfl rfl rfl rfl (mm_ahead_ok n d rfl) ?_
        refine xr_ior (in_90 rfl) ?_
        refine xr_iand (in_90 rfl) ?_
        refine xr_istore [none, some (xv_i a1435), some (xv_i a1436), some (xv_i a1437), some (xv_i a1438), some (xv_i a1439), some (xv_i (a1436 &&& (a1435 ||| (mm_ahead a1440 a1438 a1439)))), some (xv_i a1441)] (in_90 rfl) (nl_90 rfl) rfl ?_
        refine xr_iinc (a1441 + (1 : Int32)) [none, some (xv_i a1435), some (xv_i a1436), some (xv_i a1437), some (xv_i a1438), some (xv_i a1439), some (xv_i (a1436 &&& (a1435 ||| (mm_ahead a1440 a1438 a1439)))), some (xv_i (a1441 + (1 : Int32)))] (in_90 rfl) rfl (xi_1 _) (nl_90 rfl) rfl ?_
        refine xr_goto 19 (in_90 rfl) rfl ?_
        exact ih (a1436 &&& (a1435 ||| (mm_ahead a1440 a1438 a1439))) (a1441 + (1 : Int32)) m1434 h
      · replace h := (if_neg c1443).symm.trans h
        refine xr_iff 46 (in_90 rfl) rfl c1443 ?_
        refine xr_iload_n (in_90 rfl) rfl ?_
        refine xr_iload_n (in_90 rfl) rfl ?_
        refine xr_iload (in_90 rfl) rfl ?_
        refine xr_iload (in_90 rfl) rfl ?_
        refine xr_iload (in_90 rfl) rfl ?_
        refine xq_calla [xv_i a1440, xv_i a1438, xv_i a1439] [xv_i a1435, xv_i a1436] [some (xv_i a1440), some (xv_i a1438), some (xv_i a1439), none] (xk_S (in_90 rfl)) (cl_90 rfl) rfl rfl rfl rfl (mm_ahead_ok n d rfl) ?_
        refine xr_iand (in_90 rfl) ?_
        refine xr_ior (in_90 rfl) ?_
        refine xr_goto 59 (in_90 rfl) rfl ?_
        refine xr_istore [none, some (xv_i a1435), some (xv_i a1436), some (xv_i a1437), some (xv_i a1438), some (xv_i a1439), some (xv_i (a1436 ||| (a1435 &&& (mm_ahead a1440 a1438 a1439)))), some (xv_i a1441)] (in_90 rfl) (nl_90 rfl) rfl ?_
        refine xr_iinc (a1441 + (1 : Int32)) [none, some (xv_i a1435), some (xv_i a1436), some (xv_i a1437), some (xv_i a1438), some (xv_i a1439), some (xv_i (a1436 ||| (a1435 &&& (mm_ahead a1440 a1438 a1439)))), some (xv_i (a1441 + (1 : Int32)))] (in_90 rfl) rfl (xi_1 _) (nl_90 rfl) rfl ?_
        refine xr_goto 19 (in_90 rfl) rfl ?_
        exact ih (a1436 ||| (a1435 &&& (mm_ahead a1440 a1438 a1439))) (a1441 + (1 : Int32)) m1434 h
def mm_fixed (F : Nat) (a1 : Int32) (a2 : Int32) (a3 : Int32) (a4 : Int32) (a5 : Int32) (m : xm_S) : Option (Int32 × xm_S) := mm_fixed_l19 F a1 a2 a3 a4 a5 (fun (x1444 : Int32) (m1445 : xm_S) => some (x1444, m1445)) F (if a3 = 0 then ((1 : Int32) <<< (a5 &&& 31)) - (1 : Int32) else (0 : Int32)) (0 : Int32) m
theorem mm_fixed_ok {xt : Nat → Nat × (Nat → Int32)} (n d : Nat) {F : Nat} {a1 : Int32} {a2 : Int32} {a3 : Int32} {a4 : Int32} {a5 : Int32} {m m' : xm_S} {r : Int32} (h : mm_fixed F a1 a2 a3 a4 a5 m = some (r, m')) : xm_Run pg xt (d + 1) 90 0 0 (xQ_i (sh n) r m') 0 [some (xv_r 35), some (xv_i a1), some (xv_i a2), some (xv_i a3), some (xv_i a4), some (xv_i a5), none, none] [] (xq_2 (sh n) m) 0 0 := by
  unfold mm_fixed at h
  refine xr_iload_n (in_90 rfl) rfl ?_
  have q1446 : xm_Run pg xt (d + 1) 90 0 0 (xQ_i (sh n) r m') 14 [none, some (xv_i a1), some (xv_i a2), some (xv_i a3), some (xv_i a4), some (xv_i a5), none, none] [xv_i (if a3 = 0 then ((1 : Int32) <<< (a5 &&& 31)) - (1 : Int32) else (0 : Int32))] (xq_2 (sh n) m) 0 0 := by
    refine xr_istore [none, some (xv_i a1), some (xv_i a2), some (xv_i a3), some (xv_i a4), some (xv_i a5), some (xv_i (if a3 = 0 then ((1 : Int32) <<< (a5 &&& 31)) - (1 : Int32) else (0 : Int32))), none] (in_90 rfl) (nl_90 rfl) rfl ?_
    refine xr_iconst_ _ (in_90 rfl) (show _ = (0 : Int32) by decide) ?_
    refine xr_istore [none, some (xv_i a1), some (xv_i a2), some (xv_i a3), some (xv_i a4), some (xv_i a5), some (xv_i (if a3 = 0 then ((1 : Int32) <<< (a5 &&& 31)) - (1 : Int32) else (0 : Int32))), some (xv_i (0 : Int32))] (in_90 rfl) (nl_90 rfl) rfl ?_
    refine mm_fixed_l19_ok n d (fun x1444 m1445 h => ?_) F (if a3 = 0 then ((1 : Int32) <<< (a5 &&& 31)) - (1 : Int32) else (0 : Int32)) (0 : Int32) m h
    refine xr_iload (in_90 rfl) rfl ?_
    obtain ⟨rfl, rfl⟩ := Prod.mk.inj (Option.some.inj h)
    exact xr_iret (kd_90) (in_90 rfl) (Nat.le_refl _) (Nat.le_refl _) ⟨rfl, rfl⟩
  by_cases c1433 : a3 = 0
  · refine xr_ift 8 (in_90 rfl) rfl c1433 ?_
    refine xr_iconst_ _ (in_90 rfl) (show _ = (1 : Int32) by decide) ?_
    refine xr_iload (in_90 rfl) rfl ?_
    refine xr_ishl (in_90 rfl) ?_
    refine xr_iconst_ _ (in_90 rfl) (show _ = (1 : Int32) by decide) ?_
    refine xr_isub (in_90 rfl) ?_
    refine xr_forget (loc' := [none, some (xv_i a1), some (xv_i a2), some (xv_i a3), some (xv_i a4), some (xv_i a5), none, none]) (xl_o (xl_s (xl_s (xl_s (xl_s (xl_s (xl_o (xl_o xl_n)))))))) ?_
    rw [show (if a3 = 0 then ((1 : Int32) <<< (a5 &&& 31)) - (1 : Int32) else (0 : Int32)) = ((1 : Int32) <<< (a5 &&& 31)) - (1 : Int32) by rw [if_pos c1433]] at q1446
    exact q1446
  · refine xr_iff 8 (in_90 rfl) rfl c1433 ?_
    refine xr_iconst_ _ (in_90 rfl) (show _ = (0 : Int32) by decide) ?_
    refine xr_goto 14 (in_90 rfl) rfl ?_
    refine xr_forget (loc' := [none, some (xv_i a1), some (xv_i a2), some (xv_i a3), some (xv_i a4), some (xv_i a5), none, none]) (xl_o (xl_s (xl_s (xl_s (xl_s (xl_s (xl_o (xl_o xl_n)))))))) ?_
    rw [show (if a3 = 0 then ((1 : Int32) <<< (a5 &&& 31)) - (1 : Int32) else (0 : Int32)) = (0 : Int32) by rw [if_neg c1433]] at q1446
    exact q1446
