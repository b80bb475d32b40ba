/-! The law's loop. -/
def rr_P (N : Nat) (m : xm_S) : Prop := ∃ (T : bo_T) (PS : Nat → Nat), bt_W T ∧ cb_P T PS N m ∧ bt_M T m ∧ wn_R m m
theorem rr_formula {F N : Nat} {m : xm_S} (x a b : Int32) (hF : 2 ^ 31 ≤ F) (h : rr_P N m) : ∃ (r : Int32) (m1 m2 : xm_S), mk_formula F x a b m = some (r, m1) ∧ mm_formula F x a b m1 = some (r, m2) ∧ rr_P N m2 := by
  obtain ⟨T, PS, hW, hB, hM, hwn⟩ := h
  obtain ⟨r, m1, m2, T', PS', e1, e2, e3, e4, e5, e6, e7, e8, e9⟩ := fm_call x a b hW hB.1 hM hB.2.1 (show 28 < F by omega)
  have g1 := mk_formula_fr e1
  have g2 := mm_formula_fr e2
  exact ⟨r, m1, m2, e1, e2, T', PS', e3, ⟨e4, e6, bd_I_X hW e3 e7 (fun j => by rw [(g2 6 rfl).1, (g1 6 rfl).1]) hB.2.2.1, kt_I_X e7 (kt_I_x (kt_I_x hB.2.2.2 g1 rfl rfl rfl rfl rfl) g2 rfl rfl rfl rfl rfl)⟩, e5, wn_k hwn (by rw [(g2 30 rfl).1, (g1 30 rfl).1]) (by rw [(g2 33 rfl).1, (g1 33 rfl).1]) (by rw [(g2 34 rfl).1, (g1 34 rfl).1]) (by rw [(g2 55 rfl).1, (g1 55 rfl).1]) (by rw [(g2 56 rfl).1, (g1 56 rfl).1]) (fun j h1 h2 => e9 j (by omega))⟩
theorem rr_dual {F N : Nat} {xt : Nat → Nat × (Nat → Int32)} {m : xm_S} (x : Int32) (hxt : xt 1 = (9, xm_dk)) (hF : 2 ^ 31 ≤ F) (h : rr_P N m) : ∃ (r : Int32) (m1 m2 : xm_S), mk_dual F xt x m = some (r, m1) ∧ mm_dual F x m1 = some (r, m2) ∧ rr_P N m2 := by
  obtain ⟨T, PS, hW, hB, hM, hwn⟩ := h
  obtain ⟨r, m1, m2, T', PS', e1, e2, e3, e4, e5, e6, e6', e7, e8, e9⟩ := dl_call x hxt hF hW hB.1 hM hB.2.1 hB.2.2.1
  have g1 := mk_dual_fr e1
  have g2 := mm_dual_fr e2
  exact ⟨r, m1, m2, e1, e2, T', PS', e3, ⟨e4, e6, e6', kt_I_X e7 (kt_I_x (kt_I_x hB.2.2.2 g1 rfl rfl rfl rfl rfl) g2 rfl rfl rfl rfl rfl)⟩, e5, wn_k hwn (by rw [(g2 30 rfl).1, (g1 30 rfl).1]) (by rw [(g2 33 rfl).1, (g1 33 rfl).1]) (by rw [(g2 34 rfl).1, (g1 34 rfl).1]) (by rw [(g2 55 rfl).1, (g1 55 rfl).1]) (by rw [(g2 56 rfl).1, (g1 56 rfl).1]) (fun j h1 h2 => e9 j (by omega))⟩
theorem rr_has {F N : Nat} {m : xm_S} (v : Int32) (x : Int64) (a : Int32) (y : Int64) (b : Int32) (hF : 2 ^ 31 ≤ F) (h : rr_P N m) : ∃ (r : Int32) (m1 m2 : xm_S), mk_has F v x a y b m = some (r, m1) ∧ mm_has F v x a y b m1 = some (r, m2) ∧ rr_P N m2 := by
  obtain ⟨T, PS, hW, hB, hM, hwn⟩ := h
  obtain ⟨r, m1, m2, e1, e2⟩ := hs_call v x a y b (show 100 < F by omega) hW hB.1 hM hB.2.1
  have g1 := mk_has_fr e1
  have g2 := mm_has_fr e2
  exact ⟨r, m1, m2, e1, e2, T, PS, hW, cb_x hW (cb_x hW hB g1 rfl rfl rfl rfl rfl rfl rfl rfl rfl rfl rfl) g2 rfl rfl rfl rfl rfl rfl rfl rfl rfl rfl rfl, bt_M_f (bt_M_f hM g1 rfl rfl rfl rfl) g2 rfl rfl rfl rfl, wn_k hwn (by rw [(g2 30 rfl).1, (g1 30 rfl).1]) (by rw [(g2 33 rfl).1, (g1 33 rfl).1]) (by rw [(g2 34 rfl).1, (g1 34 rfl).1]) (by rw [(g2 55 rfl).1, (g1 55 rfl).1]) (by rw [(g2 56 rfl).1, (g1 56 rfl).1]) (fun j h1 h2 => by rw [(g2 35 rfl).1, (g1 35 rfl).1])⟩
theorem rr_ways {F N : Nat} {m : xm_S} (v x : Int32) (hF : 2 ^ 31 ≤ F) (h : rr_P N m) : ∃ (r : Int32) (N' : Nat) (m1 m2 : xm_S), mk_ways F N v x m = some (r, N', m1) ∧ mm_ways F v x m1 = some (r, m2) ∧ N ≤ N' ∧ rr_P N' m2 := by
  obtain ⟨T, PS, hW, hB, hM, hwn⟩ := h
  obtain ⟨r, N', m1, m2, e1, e2, e3, e4⟩ := wy_call v x (show 100 < F by omega) hW hB.1 hM hB.2.1 hB.2.2.2
  have g1 := mk_ways_fr e1
  have g2 := mm_ways_fr e2
  have hB1 : cb_P T PS N' m1 := ⟨bt_C_f hB.1 g1 rfl rfl rfl rfl, bt_P_f hB.2.1 g1 rfl, bd_I_X hW hW bt_X_r (fun j => by rw [(g1 6 rfl).1]) hB.2.2.1, e4⟩
  exact ⟨r, N', m1, m2, e1, e2, e3, T, PS, hW, cb_x hW hB1 g2 rfl rfl rfl rfl rfl rfl rfl rfl rfl rfl rfl, bt_M_f (bt_M_f hM g1 rfl rfl rfl rfl) g2 rfl rfl rfl rfl, wn_k hwn (by rw [(g2 30 rfl).1, (g1 30 rfl).1]) (by rw [(g2 33 rfl).1, (g1 33 rfl).1]) (by rw [(g2 34 rfl).1, (g1 34 rfl).1]) (by rw [(g2 55 rfl).1, (g1 55 rfl).1]) (by rw [(g2 56 rfl).1, (g1 56 rfl).1]) (fun j h1 h2 => by rw [(g2 35 rfl).1, (g1 35 rfl).1])⟩
theorem rr_states {F N : Nat} {m : xm_S} (v : Int32) (hF : 2 ^ 31 ≤ F) (h : rr_P N m) : ∃ (r : Int32) (N' : Nat) (m1 m2 : xm_S), mk_states F N v m = some (r, N', m1) ∧ mm_states F v m1 = some (r, m2) ∧ N ≤ N' ∧ rr_P N' m2 := by
  obtain ⟨T, PS, hW, hB, hM, hwn⟩ := h
  obtain ⟨r, N', m1, m2, e1, e2, e3, e4, e5⟩ := st_call v (show 100 < F by omega) hW hB.1 hM hB.2.1 hB.2.2.2
  have g1 := mk_states_fr e1
  have g2 := mm_states_fr e2
  have hB1 : cb_P T PS N' m1 := ⟨bt_C_f hB.1 g1 rfl rfl rfl rfl, bt_P_f hB.2.1 g1 rfl, bd_I_X hW hW bt_X_r (fun j => by rw [(g1 6 rfl).1]) hB.2.2.1, e4⟩
  exact ⟨r, N', m1, m2, e1, e2, e3, T, PS, hW, cb_x hW hB1 g2 rfl rfl rfl rfl rfl rfl rfl rfl rfl rfl rfl, bt_M_g hM (e5 0 (by decide) (by decide) (by decide)) (by rw [(g2 36 rfl).1, (g1 36 rfl).1]) (by rw [(g2 37 rfl).1, (g1 37 rfl).1]) (by rw [(g2 38 rfl).1, (g1 38 rfl).1]), wn_k hwn (by rw [(g2 30 rfl).1, (g1 30 rfl).1]) (by rw [(g2 33 rfl).1, (g1 33 rfl).1]) (by rw [(g2 34 rfl).1, (g1 34 rfl).1]) (by rw [(g2 55 rfl).1, (g1 55 rfl).1]) (by rw [(g2 56 rfl).1, (g1 56 rfl).1]) (fun j h1 h2 => e5 j (by omega) (by omega) (by omega))⟩
theorem rr_solve {F N : Nat} {xt : Nat → Nat × (Nat → Int32)} {m : xm_S} (v w : Int32) (hxt : xt 1 = (9, xm_dk)) (hF : 2 ^ 31 ≤ F) (h : rr_P N m) : ∃ (r : Int32) (N' : Nat) (m1 m2 : xm_S), mk_solve F xt N v w m = some (r, N', m1) ∧ mm_solve F v w m1 = some (r, m2) ∧ N ≤ N' ∧ rr_P N' m2 := by
  obtain ⟨T, PS, hW, hB, hM, hwn⟩ := h
  obtain ⟨r, N', m1, m2, T', PS', e1, e2, e3, e4, e5, e6, e7⟩ := sv_call v w hxt hF hW hB hM hwn
  exact ⟨r, N', m1, m2, e1, e2, e3, T', PS', e4, e5, e6, e7⟩
theorem la_c {L i : Nat} (hL : L ≤ 4096) (hi : 8 * i ≤ 4096) : ((nI L - (8 : Int32)) < nI (8 * i)) ↔ L < 8 * i + 8 := by
  rw [Int32.lt_iff_toInt_lt, show (8 : Int32) = nI 8 from rfl, pk_sub_toInt (by omega) (by decide), nI_toInt (by omega)]
  omega
theorem la_18 {F L : Nat} {xs : Nat → Int32} {kk : Nat → xm_S → Option (Int32 × Nat × xm_S)} (hF : 2 ^ 31 ≤ F) (hL : L ≤ 4096) : ∀ (r i fu N : Nat) (m : xm_S), L ≤ 8 * i + 8 * r + 7 → r < fu → 8 * i ≤ 4096 → rr_P N m → ∃ (N' : Nat) (m' : xm_S), la_law_l18 F (xm_xt L xs) kk fu (nI (8 * i)) N m = kk N' m' ∧ rr_P N' m' := by
  have hx0 : xm_xt L xs 0 = (L, xs) := rfl
  have hx1 : xm_xt L xs 1 = (9, xm_dk) := rfl
  intro r
  induction r with
  | zero =>
    intro i fu N m h hfu hi hR
    obtain ⟨fu, rfl⟩ : ∃ g, fu = g + 1 := ⟨fu - 1, by omega⟩
    refine ⟨N, m, ?_, hR⟩
    rw [la_law_l18, hx0, if_pos ((la_c hL hi).mpr (by omega))]
  | succ r ih =>
    intro i fu N m h hfu hi hR
    obtain ⟨fu, rfl⟩ : ∃ g, fu = g + 1 := ⟨fu - 1, by omega⟩
    by_cases hd : L < 8 * i + 8
    · refine ⟨N, m, ?_, hR⟩
      rw [la_law_l18, hx0, if_pos ((la_c hL hi).mpr hd)]
    have g0 : ∀ {β : Type} {o : Option β}, xg_n (nI (8 * i)) L o = o := fun {β o} => xg_nI (by omega) (by omega)
    have gk : ∀ (k : Nat), k < 8 → ∀ {β : Type} {o : Option β}, xg_n (nI (8 * i) + nI k) L o = o := fun k hk {β o} => by rw [nI_add]; exact xg_nI (by omega) (by omega)
    have g1 : ∀ {β : Type} {o : Option β}, xg_n (nI (8 * i) + (1 : Int32)) L o = o := fun {β o} => gk 1 (by decide)
    have g2 : ∀ {β : Type} {o : Option β}, xg_n (nI (8 * i) + (2 : Int32)) L o = o := fun {β o} => gk 2 (by decide)
    have g3 : ∀ {β : Type} {o : Option β}, xg_n (nI (8 * i) + (3 : Int32)) L o = o := fun {β o} => gk 3 (by decide)
    have g4 : ∀ {β : Type} {o : Option β}, xg_n (nI (8 * i) + (4 : Int32)) L o = o := fun {β o} => gk 4 (by decide)
    have g5 : ∀ {β : Type} {o : Option β}, xg_n (nI (8 * i) + (5 : Int32)) L o = o := fun {β o} => gk 5 (by decide)
    have g6 : ∀ {β : Type} {o : Option β}, xg_n (nI (8 * i) + (6 : Int32)) L o = o := fun {β o} => gk 6 (by decide)
    have g7 : ∀ {β : Type} {o : Option β}, xg_n (nI (8 * i) + (7 : Int32)) L o = o := fun {β o} => gk 7 (by decide)
    have e8 : nI (8 * i) + (8 : Int32) = nI (8 * (i + 1)) := nI_add (8 * i) 8
    rw [la_law_l18]
    simp only [hx0, g0, g1, g2, g3, g4, g5, g6, g7, e8]
    rw [if_neg (fun z => hd ((la_c hL hi).mp z))]
    have nxt := fun N m hR => ih (i + 1) fu N m (by omega) (by omega) (by omega) hR
    by_cases c0 : (xs (nI (8 * i)).toNatClampNeg &&& (15 : Int32)) = 0
    · rw [if_pos c0]
      obtain ⟨r1, m1, m2, e1, e2, e3⟩ := rr_formula (F := F) (xs (nI (8 * i) + (1 : Int32)).toNatClampNeg) (xs (nI (8 * i) + (2 : Int32)).toNatClampNeg) (xs (nI (8 * i) + (3 : Int32)).toNatClampNeg) hF hR
      rw [e1, xc_s, e2, xc_s, if_pos rfl]
      exact nxt N m2 e3
    rw [if_neg c0]
    by_cases c1 : (xs (nI (8 * i)).toNatClampNeg &&& (15 : Int32)) = 1
    · rw [if_pos c1]
      obtain ⟨r1, m1, m2, e1, e2, e3⟩ := rr_dual (F := F) (xt := xm_xt L xs) (xs (nI (8 * i) + (1 : Int32)).toNatClampNeg) hx1 hF hR
      rw [e1, xc_s, e2, xc_s, if_pos rfl]
      exact nxt N m2 e3
    rw [if_neg c1]
    by_cases c2 : (xs (nI (8 * i)).toNatClampNeg &&& (15 : Int32)) = 2
    · rw [if_pos c2]
      have e : mk_formulas m = mm_formulas m := by
        obtain ⟨T, PS, hW, hB, hM, hwn⟩ := hR
        unfold mk_formulas mm_formulas
        rw [hB.1.1, hM.1]
      rw [if_pos e]
      exact nxt N m hR
    rw [if_neg c2]
    by_cases c3 : (xs (nI (8 * i)).toNatClampNeg &&& (15 : Int32)) = 3
    · rw [if_pos c3]
      obtain ⟨r1, m1, m2, e1, e2, e3⟩ := rr_has (F := F) (xs (nI (8 * i) + (1 : Int32)).toNatClampNeg) ((((xs (nI (8 * i) + (2 : Int32)).toNatClampNeg).toInt64) <<< ((32 : Int32).toInt64 &&& 63)) ||| (((xs (nI (8 * i) + (3 : Int32)).toNatClampNeg).toInt64) &&& (4294967295 : Int64))) (xs (nI (8 * i) + (4 : Int32)).toNatClampNeg) ((((xs (nI (8 * i) + (5 : Int32)).toNatClampNeg).toInt64) <<< ((32 : Int32).toInt64 &&& 63)) ||| (((xs (nI (8 * i) + (6 : Int32)).toNatClampNeg).toInt64) &&& (4294967295 : Int64))) (xs (nI (8 * i) + (7 : Int32)).toNatClampNeg) hF hR
      rw [e1, xc_s, e2, xc_s, if_pos rfl]
      exact nxt N m2 e3
    rw [if_neg c3]
    by_cases c4 : (xs (nI (8 * i)).toNatClampNeg &&& (15 : Int32)) = 4
    · rw [if_pos c4]
      obtain ⟨r1, N', m1, m2, e1, e2, e4, e3⟩ := rr_ways (F := F) (xs (nI (8 * i) + (1 : Int32)).toNatClampNeg) (xs (nI (8 * i) + (2 : Int32)).toNatClampNeg) hF hR
      rw [e1, xc_as e4, e2, xc_s, if_pos rfl]
      exact nxt N' m2 e3
    rw [if_neg c4]
    by_cases c5 : (xs (nI (8 * i)).toNatClampNeg &&& (15 : Int32)) = 5
    · rw [if_pos c5]
      obtain ⟨r1, N', m1, m2, e1, e2, e4, e3⟩ := rr_states (F := F) (xs (nI (8 * i) + (1 : Int32)).toNatClampNeg) hF hR
      rw [e1, xc_as e4, e2, xc_s, if_pos rfl]
      exact nxt N' m2 e3
    rw [if_neg c5]
    by_cases c6 : (xs (nI (8 * i)).toNatClampNeg &&& (15 : Int32)) = 6
    · rw [if_pos c6]
      obtain ⟨r1, N', m1, m2, e1, e2, e4, e3⟩ := rr_solve (F := F) (xt := xm_xt L xs) (xs (nI (8 * i) + (1 : Int32)).toNatClampNeg) (xs (nI (8 * i) + (2 : Int32)).toNatClampNeg) hx1 hF hR
      rw [e1, xc_as e4, e2, xc_s, if_pos rfl]
      exact nxt N' m2 e3
    rw [if_neg c6]
    have hwn : wn_R m m := by
      obtain ⟨T, PS, hW, hB, hM, hwn⟩ := hR
      exact hwn
    by_cases c7 : (xs (nI (8 * i)).toNatClampNeg &&& (15 : Int32)) = 7
    · rw [if_pos c7, if_pos (wn_size _ hwn)]
      exact nxt N m hR
    rw [if_neg c7]
    by_cases c8 : (xs (nI (8 * i)).toNatClampNeg &&& (15 : Int32)) = 8
    · rw [if_pos c8]
      obtain ⟨r1, e1, e2⟩ := wn_gives (F := F) (xs (nI (8 * i) + (1 : Int32)).toNatClampNeg) (xs (nI (8 * i) + (2 : Int32)).toNatClampNeg) hwn
      rw [e1, xc_s, e2, xc_s, if_pos rfl]
      exact nxt N m hR
    rw [if_neg c8]
    by_cases c9 : (xs (nI (8 * i)).toNatClampNeg &&& (15 : Int32)) = 9
    · rw [if_pos c9]
      obtain ⟨r1, e1, e2⟩ := wn_next (F := F) (xs (nI (8 * i) + (1 : Int32)).toNatClampNeg) (xs (nI (8 * i) + (2 : Int32)).toNatClampNeg) hwn
      rw [e1, xc_s, e2, xc_s, if_pos rfl]
      exact nxt N m hR
    rw [if_neg c9]
    exact nxt N m hR
