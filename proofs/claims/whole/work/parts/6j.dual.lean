/-! The call dual: both sides alike. -/
theorem xg_0 {β : Type} {n : Nat} {o : Option β} (h : 0 < n) (hn : n < 2 ^ 31) : xg_n (0 : Int32) n o = o := xg_nI (j := 0) h hn
theorem nz_0 : (0 : Int32).toNatClampNeg = 0 := by decide
-- the reference forgets
theorem mm_clear {F : Nat} {f : Int32} {kk : xm_S → Option (Int32 × xm_S)} : ∀ (n fu i : Nat) (m : xm_S), i + n = 28 → n < fu → (∀ j, j < i → m.1 39 j = -1) →
    ∃ m' : xm_S, mm_dual_l12 F f kk fu (nI i) m = kk m' ∧ (∀ j, j < 28 → m'.1 39 j = -1) ∧ xf_r [39] m m' := by
  intro n
  induction n with
  | zero =>
    intro fu i m hi hf hm
    obtain ⟨fu, rfl⟩ : ∃ g, fu = g + 1 := ⟨fu - 1, by omega⟩
    obtain rfl : i = 28 := by omega
    rw [mm_dual_l12, if_pos (by decide)]
    exact ⟨m, rfl, hm, xf_0⟩
  | succ n ih =>
    intro fu i m hi hf hm
    obtain ⟨fu, rfl⟩ : ∃ g, fu = g + 1 := ⟨fu - 1, by omega⟩
    rw [mm_dual_l12, if_neg (show ¬ (28 : Int32) ≤ nI i from nI_ge (b := 28) (by omega) (by decide)), xg_nI (by omega) (by decide), nI_clamp (by omega), nI_1]
    unfold xs_m
    obtain ⟨m', e1, e2, e3⟩ := ih fu (i + 1) (xw_i m 39 i (-1)) (by omega) (by omega) (fun j hj => by
      by_cases e : j = i
      · subst e; exact xi_s
      · rw [xi_j e]; exact hm j (by omega))
    exact ⟨m', e1, e2, xf_t (xf_i rfl) e3⟩
theorem dl_m {F : Nat} {T : bo_T} {m : xm_S} {f : Nat} (hF : 2 ^ 31 ≤ F) (hW : bt_W T) (hM : bt_M T m) (hf : f < T.1) : ∃ m' : xm_S, mm_dual F (nI f) m = some (bt_i (bt_D 28 T f).1, m') ∧ bt_M (bt_D 28 T f).2 m' ∧ (∀ j, j ≠ 0 → m'.1 35 j = m.1 35 j) := by
  have h28 := hW.1
  unfold mm_dual mm_isFormula
  rw [hM.1, if_neg (nI_pos (by omega)), if_neg (nI_ge (by omega) (by omega)), if_neg (by decide)]
  obtain ⟨m1, e1, e2, e3⟩ := mm_clear (F := F) (f := nI f) (kk := fun (m1190 : xm_S) => xg_n (0 : Int32) 60 (xs_m (xw_i m1190 40 (0 : Int32).toNatClampNeg (nI f)) fun m1192 => mm_dual_l40 F (nI f) (fun (m1346 : xm_S) => xg_n (nI f) 28 (some (m1346.1 39 (nI f).toNatClampNeg, m1346))) F (1 : Int32) m1192)) 28 F 0 m (by omega) (by omega) (fun j hj => by omega)
  have e1' := e1
  rw [show nI 0 = (0 : Int32) from rfl] at e1'
  rw [e1']
  rw [xg_0 (by decide) (by decide), nz_0]
  unfold xs_m
  have hM1 : bt_M T (xw_i m1 40 0 (nI f)) := by
    have := bt_M_f hM e3 rfl rfl rfl rfl
    exact bt_M_f this (xf_i (l := [40]) rfl) rfl rfl rfl rfl
  have hI1 : md_I T (xw_i m1 40 0 (nI f)) := fun j hj => Or.inl (by rw [xi_k (show (39 : Nat) ≠ 40 by decide)]; exact e2 j hj)
  obtain ⟨s, m2, hs, o1, o2, o3⟩ := mm_dfs (F := F) (f := nI f) (kk := fun (m1346 : xm_S) => xg_n (nI f) 28 (some (m1346.1 39 (nI f).toNatClampNeg, m1346))) (by omega) 28 f 0 (xw_i m1 40 0 (nI f)) T (by omega) hf (by omega) hW hM1 hI1 xi_s
  have hsF : s + 1 ≤ F := by
    have : 2 ^ (f + 1) ≤ 2 ^ 28 := Nat.pow_le_pow_right (by decide) (by omega)
    omega
  obtain ⟨g, hg⟩ : ∃ g, F = g + 1 + s := ⟨F - s - 1, by omega⟩
  have e35 : ∀ j, j ≠ 0 → m2.1 35 j = m.1 35 j := fun j hj => by rw [o2 j hj, xi_k (show (35 : Nat) ≠ 40 by decide), (e3 35 rfl).1]
  rcases o3 with ⟨d, g1, g2, g3, g4, g5, -⟩ | ⟨g1, g2⟩
  · refine ⟨m2, ?_, o1, e35⟩
    have h3 := g3 (g + 1)
    rw [← hg] at h3
    show mm_dual_l40 F (nI f) _ F (nI 1) _ = _
    rw [h3, mm_dual_l40, if_pos (show nI 0 ≤ (0 : Int32) by decide), xg_nI (by omega) (by decide), nI_clamp (by omega), g5, g2]
    rfl
  · refine ⟨m2, ?_, o1, e35⟩
    have h3 := g2 (g + 1)
    rw [← hg] at h3
    show mm_dual_l40 F (nI f) _ F (nI 1) _ = _
    rw [h3, g1]
    rfl
theorem dl_bad {F : Nat} {xt : Nat → Nat × (Nat → Int32)} {T : bo_T} {m : xm_S} {x : Int32} (hC : bt_C T m) (hM : bt_M T m) (h : x < 0 ∨ nI T.1 ≤ x) : mk_dual F xt x m = some (-1, m) ∧ mm_dual F x m = some (-1, m) := by
  unfold mk_dual mm_dual bk_knows mm_isFormula
  rw [hC.1, hM.1]
  by_cases h0 : x < 0
  · rw [if_pos h0, if_pos rfl]
    exact ⟨rfl, rfl⟩
  · rw [if_neg h0, if_pos (h.resolve_left h0), if_pos rfl]
    exact ⟨rfl, rfl⟩
theorem dl_call {F : Nat} {xt : Nat → Nat × (Nat → Int32)} {T : bo_T} {PS : Nat → Nat} {m : xm_S} (x : Int32) (hxt : xt 1 = (9, xm_dk)) (hF : 2 ^ 31 ≤ F) (hW : bt_W T) (hC : bt_C T m) (hM : bt_M T m) (hP : bt_P T PS m) (hI : bd_I T m) :
    ∃ (r : Int32) (m1 m2 : xm_S) (T' : bo_T) (PS' : Nat → Nat), mk_dual F xt x m = some (r, m1) ∧ mm_dual F x m1 = some (r, m2) ∧ bt_W T' ∧ bt_C T' m2 ∧ bt_M T' m2 ∧ bt_P T' PS' m2 ∧ bd_I T' m2 ∧ bt_X T T' ∧ (∀ j, j < T.1 → PS' j = PS j) ∧ (∀ j, j ≠ 0 → m2.1 35 j = m.1 35 j) := by
  have h28 := hW.1
  by_cases h0 : x < 0 ∨ nI T.1 ≤ x
  · obtain ⟨e1, e2⟩ := dl_bad (F := F) (xt := xt) hC hM h0
    exact ⟨-1, m, m, T, PS, e1, e2, hW, hC, hM, hP, hI, bt_X_r, fun _ _ => rfl, fun _ _ => rfl⟩
  · have h1 : ¬ x < 0 := fun q => h0 (Or.inl q)
    obtain ⟨f, hf, rfl⟩ := nI_of h1
    have hfT : f < T.1 := by
      have h2 : ¬ nI T.1 ≤ nI f := fun q => h0 (Or.inr q)
      rw [nI_leI (by omega) hf] at h2
      omega
    obtain ⟨m1, PS', c1, c2, c3, c4, c5⟩ := bk_dual hxt (show 28 < F by omega) 29 f 0 m T PS (by omega) hfT (by omega) hW hC hP hI
    have g := bk_buildDual_fr 29 c1
    have hM1 : bt_M T m1 := bt_M_f hM g rfl rfl rfl rfl
    obtain ⟨m2, d1, d2, d3⟩ := dl_m hF hW hM1 hfT
    have g2 := mm_dual_fr d1
    obtain ⟨w1, w2, w3⟩ := bt_D_28 hW hfT
    refine ⟨_, m1, m2, _, PS', ?_, d1, w1, bt_C_f c2 g2 rfl rfl rfl rfl, d2, bt_P_f c3 g2 rfl, ?_, w2, c5, fun j hj => by rw [d3 j hj, (g 35 rfl).1]⟩
    · unfold mk_dual bk_knows
      rw [hC.1, if_neg h1, if_neg (nI_ge hfT (by omega)), if_neg (by decide), xc_id]
      exact c1
    · exact bd_I_X w1 w1 bt_X_r (fun j => by rw [(g2 6 rfl).1]) c4
