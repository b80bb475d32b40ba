/-! states: the call, both sides alike. -/
theorem au_C_all {T : bo_T} {PS : Nat → Nat} {f n : Nat} {q : Nat → Nat × Nat} {m : xm_S} (h : au_C T PS f q n m) : ∀ s, au_r T (ut_w T (PS f) (f + 1)) f s → ∃ i, i < n ∧ q i = s :=
  af_all h.2.1 h.2.2.1 (fun i hi l hl x hx => by
    obtain ⟨-, A, G, -, -, hS⟩ := h.2.2.2 i l hi hl
    exact hS.2.2.2 x hx)
theorem au_M_all {T : bo_T} {PS : Nat → Nat} {f n : Nat} {q : Nat → Nat × Nat} {m : xm_S} (h : au_M T PS f q n m) : ∀ s, au_r T (ut_w T (PS f) (f + 1)) f s → ∃ i, i < n ∧ q i = s :=
  af_all h.2.1 h.2.2.2.1 (fun i hi l hl x hx => by
    obtain ⟨-, A, G, -, -, hS⟩ := h.2.2.2.2 i l hi hl
    exact hS.2.2.2 x hx)
theorem au_n {T : bo_T} {PS : Nat → Nat} {f n n' : Nat} {q q' : Nat → Nat × Nat} {m m' : xm_S} (h : au_C T PS f q n m) (k : au_M T PS f q' n' m') : n = n' :=
  Nat.le_antisymm (sq_le h.1.2.1 (fun i hi => au_M_all k _ (h.1.2.2.1 i hi))) (sq_le k.1.2.1 (fun i hi => au_C_all h _ (k.1.2.2.1 i hi)))
theorem st_call {F N : Nat} {T : bo_T} {PS : Nat → Nat} {m : xm_S} (v : Int32) (hF : 100 < F) (hW : bt_W T) (hC : bt_C T m) (hM : bt_M T m) (hP : bt_P T PS m) (hI : kt_I T N m) :
    ∃ (r : Int32) (N' : Nat) (m1 m2 : xm_S), mk_states F N v m = some (r, N', m1) ∧ mm_states F v m1 = some (r, m2) ∧ N ≤ N' ∧ kt_I T N' m1 ∧ (∀ j, j ≠ 9 → j ≠ 11 → j ≠ 17 → m2.1 35 j = m.1 35 j) := by
  have h28 := hW.1
  by_cases hv0 : v < 0
  · refine ⟨-1, N, m, m, ?_, ?_, Nat.le_refl _, hI, fun _ _ _ _ => rfl⟩
    · unfold mk_states bk_knows; rw [if_pos hv0, if_pos rfl]
    · unfold mm_states mm_isFormula; rw [if_pos hv0, if_pos rfl]
  obtain ⟨f, hf, rfl⟩ := nI_of hv0
  by_cases hfT : f < T.1
  · have k1 : ¬ bk_knows (nI f) m = 0 := by unfold bk_knows; rw [hC.1, if_neg hv0, if_neg (nI_ge hfT (by omega))]; decide
    obtain ⟨b, N', m1, e1, e2, e3, e4⟩ := bc_all (F := F) hF hW hC hP hI hfT
    have g1 := au_build_fr e1
    have hM1 := bt_M_f hM g1 rfl rfl rfl rfl
    have k2 : ¬ mm_isFormula (nI f) m1 = 0 := by unfold mm_isFormula; rw [hM1.1, if_neg hv0, if_neg (nI_ge hfT (by omega))]; decide
    obtain ⟨c, m2, d1, d2, d3⟩ := bm_all (F := F) hF hW hM1 hP hfT
    have ec : mk_states F N (nI f) m = if b = 0 then some ((-2 : Int32), N', m1) else some (m1.1 20 6, N', m1) := by
      unfold mk_states
      rw [if_neg k1, e1]
      simp only [xc_a, Nat.ble_eq_true_of_le e2, cond_true]
    have em : mm_states F (nI f) m1 = if c = 0 then some ((-2 : Int32), m2) else some (m2.1 35 11, m2) := by
      unfold mm_states
      rw [if_neg k2, d1]
      simp only [xc_s]
    have k5 : ∀ j, j ≠ 9 → j ≠ 11 → j ≠ 17 → m2.1 35 j = m.1 35 j := fun j h1 h2 h3 => by rw [d2 j h1 h2 h3, (g1 35 rfl).1]
    rcases e4 with ⟨b1, b2, q, n, b3⟩ | ⟨b1, b2⟩
    · rcases d3 with ⟨c1, c2, q', n', c3⟩ | ⟨c1, c2⟩
      · have en := au_n b3 c3
        refine ⟨nI n, N', m1, m2, ?_, ?_, e2, e3, k5⟩
        · rw [ec, if_neg (by rw [b1]; decide), b3.1.1.1]
        · rw [em, if_neg (by rw [c1]; decide), c3.1.1.1, en]
      · exact absurd b2 c2
    · rcases d3 with ⟨c1, c2, -⟩ | ⟨c1, c2⟩
      · exact absurd c2 b2
      · refine ⟨-2, N', m1, m2, ?_, ?_, e2, e3, k5⟩
        · rw [ec, if_pos b1]
        · rw [em, if_pos c1]
  · have hle : nI T.1 ≤ nI f := nI_le (by omega) hf
    refine ⟨-1, N, m, m, ?_, ?_, Nat.le_refl _, hI, fun _ _ _ _ => rfl⟩
    · unfold mk_states bk_knows; rw [hC.1, if_neg hv0, if_pos hle, if_pos rfl]
    · unfold mm_states mm_isFormula; rw [hM.1, if_neg hv0, if_pos hle, if_pos rfl]
