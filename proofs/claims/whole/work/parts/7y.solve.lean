/-! solve: the call, both sides alike. -/
def sv_G (N : Nat) (T' : bo_T) (PS' : Nat → Nat) (N' : Nat) (m1 m2 : xm_S) : Prop := N ≤ N' ∧ bt_W T' ∧ cb_P T' PS' N' m1 ∧ bt_M T' m2 ∧ wn_R m1 m2
def cz_P (m : xm_S) : Prop := m.1 30 1 = nI 0 ∧ m.1 30 2 = nI 0 ∧ m.1 30 3 = nI 0 ∧ m.1 30 4 = nI 0
def rz_P (m : xm_S) : Prop := m.1 35 23 = nI 0 ∧ m.1 35 24 = nI 0 ∧ m.1 35 25 = nI 0 ∧ m.1 35 26 = nI 0
theorem cz_x {m m' : xm_S} {L : List Nat} (h : cz_P m) (g : xf_r L m m') (h30 : xf_in L 30 = false) : cz_P m' := by
  unfold cz_P at *
  rw [(g 30 h30).1]
  exact h
theorem rz_x {m m' : xm_S} (h : rz_P m) (g : ∀ j, 23 ≤ j → j ≤ 26 → m'.1 35 j = m.1 35 j) : rz_P m' := by
  unfold rz_P at *
  rw [g 23 (by decide) (by decide), g 24 (by decide) (by decide), g 25 (by decide) (by decide), g 26 (by decide) (by decide)]
  exact h
theorem wn_0 {mc mm : xm_S} (h : cz_P mc) (k : rz_P mm) : wn_R mc mm := ⟨0, 0, 0, 0, by decide, by decide, fun _ => rfl, h, k, fun j hj => by omega⟩
theorem sv_two {F N : Nat} {xt : Nat → Nat × (Nat → Int32)} {T : bo_T} {PS : Nat → Nat} {m mM : xm_S} (v w : Int32) (hxt : xt 1 = (9, xm_dk)) (hF : 2 ^ 31 ≤ F) (hW : bt_W T) (hB : cb_P T PS N m) (hM : bt_M T mM) (hwn : wn_R m mM) :
    ∃ (r : Int32) (N' : Nat) (m1 m2 : xm_S) (T' : bo_T) (PS' : Nat → Nat), mk_solve F xt N v w m = some (r, N', m1) ∧ mm_solve F v w mM = some (r, m2) ∧ sv_G N T' PS' N' m1 m2 := by
  have h28 := hW.1
  have hF1 : 1000 < F := by omega
  have hC := hB.1
  have bad : mk_solve F xt N v w m = some (-1, N, m) → mm_solve F v w mM = some (-1, mM) → ∃ (r : Int32) (N' : Nat) (m1 m2 : xm_S) (T' : bo_T) (PS' : Nat → Nat), mk_solve F xt N v w m = some (r, N', m1) ∧ mm_solve F v w mM = some (r, m2) ∧ sv_G N T' PS' N' m1 m2 := fun e1 e2 => ⟨-1, N, m, mM, T, PS, e1, e2, Nat.le_refl _, hW, hB, hM, hwn⟩
  by_cases hv0 : v < 0
  · refine bad ?_ ?_
    · unfold mk_solve bk_knows; rw [if_pos hv0, if_pos rfl]
    · unfold mm_solve mm_isFormula; rw [if_pos hv0, if_pos rfl]
  obtain ⟨f, hf, rfl⟩ := nI_of hv0
  by_cases hfT : T.1 ≤ f
  · have hle : nI T.1 ≤ nI f := nI_le hfT hf
    refine bad ?_ ?_
    · unfold mk_solve bk_knows; rw [hC.1, if_neg hv0, if_pos hle, if_pos rfl]
    · unfold mm_solve mm_isFormula; rw [hM.1, if_neg hv0, if_pos hle, if_pos rfl]
  have hfT : f < T.1 := by omega
  have k1 : ¬ bk_knows (nI f) m = 0 := by unfold bk_knows; rw [hC.1, if_neg hv0, if_neg (nI_ge hfT (by omega))]; decide
  have k2 : ¬ mm_isFormula (nI f) mM = 0 := by unfold mm_isFormula; rw [hM.1, if_neg hv0, if_neg (nI_ge hfT (by omega))]; decide
  by_cases hw0 : w < 0
  · refine bad ?_ ?_
    · unfold mk_solve; rw [if_neg k1, if_pos hw0]
    · unfold mm_solve; rw [if_neg k2, if_pos hw0]
  by_cases hw3 : w ≤ (3 : Int32)
  case neg =>
    refine bad ?_ ?_
    · unfold mk_solve; rw [if_neg k1, if_neg hw0, if_neg hw3]
    · unfold mm_solve; rw [if_neg k2, if_neg hw0, if_neg hw3]
  obtain ⟨b, hb31, rfl⟩ := nI_of hw0
  have hb : b ≤ 3 := by
    have h3 : nI b ≤ nI 3 := hw3
    rw [nI_leI hb31 (by decide)] at h3
    exact h3
  obtain ⟨X, eC0⟩ : ∃ X, mk_solve F xt N (nI f) (nI b) m = X := ⟨_, rfl⟩
  obtain ⟨Y, eM0⟩ : ∃ Y, mm_solve F (nI f) (nI b) mM = Y := ⟨_, rfl⟩
  have eC := eC0
  have eM := eM0
  unfold mk_solve at eC
  unfold mm_solve at eM
  rw [if_neg k1, if_neg hw0, if_pos hw3] at eC
  rw [if_neg k2, if_neg hw0, if_pos hw3] at eM
  simp only [xs_m] at eM
  -- forgotten
  obtain ⟨mf, f1, f2⟩ : ∃ mf, wi_forget F m = some mf ∧ cz_P mf := by
    refine ⟨xw_i (xw_i (xw_i (xw_i m 30 1 (0 : Int32)) 30 2 (0 : Int32)) 30 3 (0 : Int32)) 30 4 (0 : Int32), rfl, ?_, ?_, ?_, ?_⟩
    · rw [xi_j (by decide), xi_j (by decide), xi_j (by decide), xi_s]; rfl
    · rw [xi_j (by decide), xi_j (by decide), xi_s]; rfl
    · rw [xi_j (by decide), xi_s]; rfl
    · rw [xi_s]; rfl
  have gf := wi_forget_fr f1
  have hBf := cb_x hW hB gf rfl rfl rfl rfl rfl rfl rfl rfl rfl rfl rfl
  rw [f1, xc_vs] at eC
  obtain ⟨n0, en0⟩ : ∃ n0, xw_i (xw_i (xw_i (xw_i mM 35 23 (0 : Int32)) 35 24 (0 : Int32)) 35 25 (0 : Int32)) 35 26 (0 : Int32) = n0 := ⟨_, rfl⟩
  rw [en0] at eM
  have r0 : rz_P n0 := by
    rw [← en0]
    refine ⟨?_, ?_, ?_, ?_⟩
    · rw [xi_j (by decide), xi_j (by decide), xi_j (by decide), xi_s]; rfl
    · rw [xi_j (by decide), xi_j (by decide), xi_s]; rfl
    · rw [xi_j (by decide), xi_s]; rfl
    · rw [xi_s]; rfl
  have hM0 : bt_M T n0 := bt_M_g hM (by rw [← en0, xi_j (by decide), xi_j (by decide), xi_j (by decide), xi_j (by decide)]) (by rw [← en0, xi_k (by decide), xi_k (by decide), xi_k (by decide), xi_k (by decide)]) (by rw [← en0, xi_k (by decide), xi_k (by decide), xi_k (by decide), xi_k (by decide)]) (by rw [← en0, xi_k (by decide), xi_k (by decide), xi_k (by decide), xi_k (by decide)])
  -- the dual
  obtain ⟨md, PS1, c1, c2, c3, c4, c5⟩ := bk_dual hxt (show 28 < F by omega) 29 f 0 mf T PS (by omega) hfT (by omega) hW hBf.1 hBf.2.1 hBf.2.2.1
  have gd := bk_buildDual_fr 29 c1
  obtain ⟨w1, w2, w3⟩ := bt_D_28 hW hfT
  have w4 := (bt_D_W 28 T f hW hfT (by omega)).2.2
  obtain ⟨n1, d1, d2, d3⟩ := dl_m hF hW hM0 hfT
  have r1 : rz_P n1 := rz_x r0 (fun j h1 h2 => d3 j (by omega))
  have z1 : cz_P md := cz_x f2 gd rfl
  have c1' : bk_buildDual F xt 29 (nI f) (0 : Int32) mf = some (bt_i (bt_D 28 T f).1, md) := c1
  rw [c1', xc_s] at eC
  rw [d1, xc_s] at eM
  obtain ⟨T1, eT1⟩ : ∃ T1, (bt_D 28 T f).2 = T1 := ⟨_, rfl⟩
  rw [eT1] at w1 w2 w4 d2 c2 c3 c4
  have hfT1 : f < T1.1 := Nat.lt_of_lt_of_le hfT w2.1
  have hBd : cb_P T1 PS1 N md := ⟨c2, c3, c4, kt_I_X w2 (kt_I_x hBf.2.2.2 gd rfl rfl rfl rfl rfl)⟩
  have h28' := w1.1
  cases eD : (bt_D 28 T f).1 with
  | none =>
    rw [eD] at eC eM
    rw [if_pos (show bt_i none = (-2 : Int32) from rfl)] at eC
    rw [if_pos (show bt_i none < (0 : Int32) by decide)] at eM
    exact ⟨-2, N, md, n1, T1, PS1, eC0.trans eC.symm, eM0.trans eM.symm, Nat.le_refl _, w1, hBd, d2, wn_0 z1 r1⟩
  | some d =>
    have hd := w4 d eD
    rw [eD] at eC eM
    rw [show bt_i (some d) = nI d from rfl, if_neg (nI_m2 (by omega))] at eC
    rw [show bt_i (some d) = nI d from rfl, if_neg (nI_pos (by omega))] at eM
    -- the dual's automaton
    obtain ⟨va, N1, ma, a1, a2, a3, a4⟩ := bc_all (F := F) (by omega) w1 hBd.1 hBd.2.1 hBd.2.2.2 hd
    have ga := au_build_fr a1
    obtain ⟨vb, n2, b1, b2, b3⟩ := bm_all (F := F) (by omega) w1 d2 hBd.2.1 hd
    have gb := mm_automaton_fr b1
    have hBa : cb_P T1 PS1 N1 ma := ⟨bt_C_f hBd.1 ga rfl rfl rfl rfl, bt_P_f hBd.2.1 ga rfl, bd_I_X w1 w1 bt_X_r (fun j => by rw [(ga 6 rfl).1]) hBd.2.2.1, a3⟩
    have z2 : cz_P ma := cz_x z1 ga rfl
    have r2 : rz_P n2 := rz_x r1 (fun j h1 h2 => b2 j (by omega) (by omega) (by omega))
    have hM2 : bt_M T1 n2 := bt_M_g d2 (b2 0 (by decide) (by decide) (by decide)) (gb 36 rfl).1 (gb 37 rfl).1 (gb 38 rfl).1
    rw [a1, xc_as a2] at eC
    rw [b1, xc_s] at eM
    rcases a4 with ⟨y1, y2, q, n, y3⟩ | ⟨y1, y2⟩
    case inr =>
      rcases b3 with ⟨x1, x2, -⟩ | ⟨x1, x2⟩
      · exact absurd x2 y2
      · rw [if_pos y1] at eC
        rw [if_pos x1] at eM
        exact ⟨-2, N1, ma, n2, T1, PS1, eC0.trans eC.symm, eM0.trans eM.symm, a2, w1, hBa, hM2, wn_0 z2 r2⟩
    case inl =>
      rcases b3 with ⟨x1, x2, q', n', x3⟩ | ⟨x1, x2⟩
      case inr => exact absurd y2 x2
      rw [if_neg (by rw [y1]; decide)] at eC
      rw [if_neg (by rw [x1]; decide)] at eM
      -- the dual's game
      rcases sv_game (pl := true) hF1 hb y3 x3 with ⟨mc', mm', t1, t2, t3⟩ | ⟨cnt, E, S, y, mc1, mm1, mc2, mm2, t1, t2, t3, t4, hP, hfix, sC, sM, t5, t6, t7⟩
      · have ge := gm_explore_fr t1
        have gm := mm_game_fr t2
        rw [t1, xc_s, if_pos rfl] at eC
        rw [t2, xc_s, if_pos rfl] at eM
        exact ⟨-2, N1, mc', mm', T1, PS1, eC0.trans eC.symm, eM0.trans eM.symm, a2, w1, cb_x w1 hBa ge rfl rfl rfl rfl rfl rfl rfl rfl rfl rfl rfl, bt_M_g hM2 (t3 0 (by decide)) (gm 36 rfl).1 (gm 37 rfl).1 (gm 38 rfl).1, wn_0 (cz_x z2 ge rfl) (rz_x r2 (fun j h1 h2 => t3 j (by omega)))⟩
      have ge := gm_explore_fr t1
      have gm := mm_game_fr t2
      have gw := gm_isWonBy_fr t3
      have gs := mm_findSafe_fr t4
      have hB3 := cb_x w1 (cb_x w1 hBa ge rfl rfl rfl rfl rfl rfl rfl rfl rfl rfl rfl) gw rfl rfl rfl rfl rfl rfl rfl rfl rfl rfl rfl
      have z3 : cz_P mc2 := cz_x (cz_x z2 ge rfl) gw rfl
      have r3 : rz_P mm2 := rz_x r2 (fun j h1 h2 => t7 j (by omega) (by omega))
      have hM3 : bt_M T1 mm2 := bt_M_g hM2 (t7 0 (by decide) (by decide)) (by rw [(gs 36 rfl).1, (gm 36 rfl).1]) (by rw [(gs 37 rfl).1, (gm 37 rfl).1]) (by rw [(gs 38 rfl).1, (gm 38 rfl).1])
      have t3' : gm_isWonBy F (1 : Int32) mc1 = some (bI (S 0), mc2) := t3
      have t4' : mm_findSafe F (1 : Int32) mm1 = some mm2 := t4
      rw [t1, xc_s, if_neg (show ¬ (1 : Int32) = 0 by decide), t3', xc_s] at eC
      rw [t2, xc_s, if_neg (show ¬ (1 : Int32) = 0 by decide), t4', xc_vs, xg_0 (by decide) (by decide), nz_0, sM.2 0 hP.1] at eM
      cases eS : S 0 with
      | true =>
        rw [eS, if_neg (show ¬ bI true = 0 by decide)] at eC eM
        obtain ⟨mc3, mm3, u1, u2, u3, u4⟩ := w_mach hF1 hP hfix sC sM eS t5 t6
        have gt := wi_takeMachine_fr u1
        have gu := mm_build_fr u2
        rw [u1, xc_vs] at eC
        rw [u2, xc_vs] at eM
        exact ⟨1, N1, mc3, mm3, T1, PS1, eC0.trans eC.symm, eM0.trans eM.symm, a2, w1, cb_x w1 hB3 gt rfl rfl rfl rfl rfl rfl rfl rfl rfl rfl rfl, bt_M_g hM3 (u4 0 (by omega)) (gu 36 rfl).1 (gu 37 rfl).1 (gu 38 rfl).1, u3⟩
      | false =>
        rw [eS, if_pos (show bI false = 0 from rfl)] at eC eM
        clear ge gm gw gs t1 t2 t3 t4 t3' t4' hfix sC sM t5 t6 t7 hP y1 x1
        -- the formula's own automaton
        obtain ⟨va', N2, ma', a1', a2', a3', a4'⟩ := bc_all (F := F) (by omega) w1 hB3.1 hB3.2.1 hB3.2.2.2 hfT1
        have ga' := au_build_fr a1'
        obtain ⟨vb', n2', b1', b2', b3'⟩ := bm_all (F := F) (by omega) w1 hM3 hB3.2.1 hfT1
        have gb' := mm_automaton_fr b1'
        have hB4 : cb_P T1 PS1 N2 ma' := ⟨bt_C_f hB3.1 ga' rfl rfl rfl rfl, bt_P_f hB3.2.1 ga' rfl, bd_I_X w1 w1 bt_X_r (fun j => by rw [(ga' 6 rfl).1]) hB3.2.2.1, a3'⟩
        have z4 : cz_P ma' := cz_x z3 ga' rfl
        have r4 : rz_P n2' := rz_x r3 (fun j h1 h2 => b2' j (by omega) (by omega) (by omega))
        have hM4 : bt_M T1 n2' := bt_M_g hM3 (b2' 0 (by decide) (by decide) (by decide)) (gb' 36 rfl).1 (gb' 37 rfl).1 (gb' 38 rfl).1
        have hN2 : N ≤ N2 := Nat.le_trans a2 a2'
        rw [a1', xc_as a2'] at eC
        rw [b1', xc_s] at eM
        rcases a4' with ⟨y1, y2', q2, n2q, y3'⟩ | ⟨y1, y2'⟩
        case inr =>
          rcases b3' with ⟨x1, x2', -⟩ | ⟨x1, x2'⟩
          · exact absurd x2' y2'
          · rw [if_pos y1] at eC
            rw [if_pos x1] at eM
            exact ⟨-2, N2, ma', n2', T1, PS1, eC0.trans eC.symm, eM0.trans eM.symm, hN2, w1, hB4, hM4, wn_0 z4 r4⟩
        case inl =>
          rcases b3' with ⟨x1, x2', q2', n2q', x3'⟩ | ⟨x1, x2'⟩
          case inr => exact absurd y2' x2'
          rw [if_neg (by rw [y1]; decide)] at eC
          rw [if_neg (by rw [x1]; decide)] at eM
          rcases sv_game (pl := false) hF1 hb y3' x3' with ⟨mc', mm', t1, t2, t3⟩ | ⟨cnt', E', S', y', mc1', mm1', mc2', mm2', t1, t2, t3, t4, hP, hfix, sC, sM, t5, t6, t7⟩
          · have ge := gm_explore_fr t1
            have gm := mm_game_fr t2
            rw [t1, xc_s, if_pos rfl] at eC
            rw [t2, xc_s, if_pos rfl] at eM
            exact ⟨-2, N2, mc', mm', T1, PS1, eC0.trans eC.symm, eM0.trans eM.symm, hN2, w1, cb_x w1 hB4 ge rfl rfl rfl rfl rfl rfl rfl rfl rfl rfl rfl, bt_M_g hM4 (t3 0 (by decide)) (gm 36 rfl).1 (gm 37 rfl).1 (gm 38 rfl).1, wn_0 (cz_x z4 ge rfl) (rz_x r4 (fun j h1 h2 => t3 j (by omega)))⟩
          have ge := gm_explore_fr t1
          have gm := mm_game_fr t2
          have gw := gm_isWonBy_fr t3
          have gs := mm_findSafe_fr t4
          have hB5 := cb_x w1 (cb_x w1 hB4 ge rfl rfl rfl rfl rfl rfl rfl rfl rfl rfl rfl) gw rfl rfl rfl rfl rfl rfl rfl rfl rfl rfl rfl
          have z5 : cz_P mc2' := cz_x (cz_x z4 ge rfl) gw rfl
          have r5 : rz_P mm2' := rz_x r4 (fun j h1 h2 => t7 j (by omega) (by omega))
          have hM5 : bt_M T1 mm2' := bt_M_g hM4 (t7 0 (by decide) (by decide)) (by rw [(gs 36 rfl).1, (gm 36 rfl).1]) (by rw [(gs 37 rfl).1, (gm 37 rfl).1]) (by rw [(gs 38 rfl).1, (gm 38 rfl).1])
          have t3' : gm_isWonBy F (2 : Int32) mc1' = some (bI (S' 0), mc2') := t3
          have t4' : mm_findSafe F (0 : Int32) mm1' = some mm2' := t4
          rw [t1, xc_s, if_neg (show ¬ (1 : Int32) = 0 by decide), t3', xc_s] at eC
          rw [t2, xc_s, if_neg (show ¬ (1 : Int32) = 0 by decide), t4', xc_vs, xg_0 (by decide) (by decide)] at eM
          simp only [xj_j] at eM
          rw [sM.2 0 hP.1] at eM
          cases eS' : S' 0 with
          | false =>
            rw [eS', if_pos (show bI false = 0 from rfl)] at eC
            rw [eS', if_pos (show bI false = 0 from rfl), xg_0 (by decide) (by decide), if_pos (show bI false = 0 from rfl)] at eM
            exact ⟨0, N2, mc2', mm2', T1, PS1, eC0.trans eC.symm, eM0.trans eM.symm, hN2, w1, hB5, hM5, wn_0 z5 r5⟩
          | true =>
            rw [eS', if_neg (show ¬ bI true = 0 by decide)] at eC
            obtain ⟨mc3, mm3, u1, u2, u3, u4⟩ := w_oppo hF1 hP hfix sC sM eS' t5 t6
            have gt := wi_takeOpponent_fr u1
            have gu := mm_build_fr u2
            rw [eS', if_neg (show ¬ bI true = 0 by decide), u2, xc_vs, xg_0 (by decide) (by decide), (gu 52 rfl).1, sM.2 0 hP.1, eS', if_neg (show ¬ bI true = 0 by decide)] at eM
            rw [u1, xc_vs] at eC
            exact ⟨2, N2, mc3, mm3, T1, PS1, eC0.trans eC.symm, eM0.trans eM.symm, hN2, w1, cb_x w1 hB5 gt rfl rfl rfl rfl rfl rfl rfl rfl rfl rfl rfl, bt_M_g hM5 (u4 0 (by omega)) (gu 36 rfl).1 (gu 37 rfl).1 (gu 38 rfl).1, u3⟩
-- in one memory, the class's call first
theorem sv_call {F N : Nat} {xt : Nat → Nat × (Nat → Int32)} {T : bo_T} {PS : Nat → Nat} {m : xm_S} (v w : Int32) (hxt : xt 1 = (9, xm_dk)) (hF : 2 ^ 31 ≤ F) (hW : bt_W T) (hB : cb_P T PS N m) (hM : bt_M T m) (hwn : wn_R m m) :
    ∃ (r : Int32) (N' : Nat) (m1 m2 : xm_S) (T' : bo_T) (PS' : Nat → Nat), mk_solve F xt N v w m = some (r, N', m1) ∧ mm_solve F v w m1 = some (r, m2) ∧ N ≤ N' ∧ bt_W T' ∧ cb_P T' PS' N' m2 ∧ bt_M T' m2 ∧ wn_R m2 m2 := by
  obtain ⟨r0, N0, m1, -, -, -, e1, -, -⟩ := sv_two v w hxt hF hW hB hM hwn
  have g1 := mk_solve_fr e1
  have hM1 : bt_M T m1 := bt_M_f hM g1 rfl rfl rfl rfl
  have hwn1 : wn_R m m1 := by
    unfold wn_R at *
    rw [(g1 35 rfl).1, (g1 55 rfl).1, (g1 56 rfl).1]
    exact hwn
  obtain ⟨r, N', m1', m2, T', PS', c1, c2, c3, c4, c5, c6, c7⟩ := sv_two v w hxt hF hW hB hM1 hwn1
  obtain ⟨rfl, rfl, rfl⟩ : r0 = r ∧ N0 = N' ∧ m1 = m1' := by
    rw [e1] at c1
    cases c1
    exact ⟨rfl, rfl, rfl⟩
  have g2 := mm_solve_fr c2
  refine ⟨r0, N0, m1, m2, T', PS', c1, c2, c3, c4, cb_x c4 c5 g2 rfl rfl rfl rfl rfl rfl rfl rfl rfl rfl rfl, c6, ?_⟩
  unfold wn_R at *
  rw [(g2 30 rfl).1, (g2 33 rfl).1, (g2 34 rfl).1]
  exact c7
