/-! Making, as a function of the book; the call formula. -/
abbrev bo_T : Type := Nat × (Nat → Nat) × (Nat → Nat) × (Nat → Nat)
def bt_W (T : bo_T) : Prop := bo_W T.1 T.2.1 T.2.2.1 T.2.2.2
def bt_C (T : bo_T) (m : xm_S) : Prop := bo_C T.1 T.2.1 T.2.2.1 T.2.2.2 m
def bt_M (T : bo_T) (m : xm_S) : Prop := bo_M T.1 T.2.1 T.2.2.1 T.2.2.2 m
def bt_P (T : bo_T) (PS : Nat → Nat) (m : xm_S) : Prop := bo_P T.1 T.2.1 T.2.2.1 T.2.2.2 PS m
-- the later book holds the earlier
def bt_X (T T' : bo_T) : Prop := T.1 ≤ T'.1 ∧ ∀ j, j < T.1 → T'.2.1 j = T.2.1 j ∧ T'.2.2.1 j = T.2.2.1 j ∧ T'.2.2.2 j = T.2.2.2 j
theorem bt_X_r {T : bo_T} : bt_X T T := ⟨Nat.le_refl _, fun _ _ => ⟨rfl, rfl, rfl⟩⟩
theorem bt_X_t {T T' T'' : bo_T} (h : bt_X T T') (k : bt_X T' T'') : bt_X T T'' := ⟨Nat.le_trans h.1 k.1, fun j hj => ⟨(k.2 j (Nat.lt_of_lt_of_le hj h.1)).1.trans (h.2 j hj).1, (k.2 j (Nat.lt_of_lt_of_le hj h.1)).2.1.trans (h.2 j hj).2.1, (k.2 j (Nat.lt_of_lt_of_le hj h.1)).2.2.trans (h.2 j hj).2.2⟩⟩
def bt_G (T : bo_T) (k a b : Nat) : Prop := k ≤ 8 ∧ (k ≤ 1 → a = 0) ∧ (k = 2 ∨ k = 3 → a < 4) ∧ (4 ≤ k → a < T.1) ∧ (bo_two k → b < T.1) ∧ (¬ bo_two k → b = 0)
-- the number (none: no room) and the book behind it
def bt_mk (T : bo_T) (k a b : Nat) : Option Nat × bo_T := match bo_f T.2.1 T.2.2.1 T.2.2.2 k a b 0 T.1 with
  | some f => (some f, T)
  | none => if T.1 = 28 then (none, T) else (some T.1, T.1 + 1, va_up T.2.1 T.1 k, va_up T.2.2.1 T.1 a, va_up T.2.2.2 T.1 b)
def bt_i : Option Nat → Int32
  | some f => nI f
  | none => -2
theorem bt_G_s {T : bo_T} {k a b : Nat} (hW : bt_W T) (h : bt_G T k a b) : k < 28 ∧ a < 28 ∧ b < 28 := by
  obtain ⟨h1, h2, h3, h4, h5, h6⟩ := h
  have hc : T.1 ≤ 28 := hW.1
  refine ⟨by omega, ?_, ?_⟩
  · by_cases q : k ≤ 1
    · rw [h2 q]; decide
    · by_cases q2 : 4 ≤ k
      · have := h4 q2; omega
      · have := h3 (by omega); omega
  · by_cases q : bo_two k
    · have := h5 q; omega
    · rw [h6 q]; decide
theorem bt_up_X {T : bo_T} {k a b : Nat} : bt_X T (T.1 + 1, va_up T.2.1 T.1 k, va_up T.2.2.1 T.1 a, va_up T.2.2.2 T.1 b) := by
  refine ⟨Nat.le_succ _, fun j hj => ?_⟩
  have : j ≠ T.1 := by omega
  simp [va_up, this]
theorem bt_mk_W {T : bo_T} {k a b : Nat} (hW : bt_W T) (h : bt_G T k a b) : bt_W (bt_mk T k a b).2 ∧ bt_X T (bt_mk T k a b).2 := by
  unfold bt_mk
  cases hf : bo_f T.2.1 T.2.2.1 T.2.2.2 k a b 0 T.1 with
  | some f => exact ⟨hW, bt_X_r⟩
  | none =>
    dsimp only
    by_cases hc : T.1 = 28
    · rw [if_pos hc]; exact ⟨hW, bt_X_r⟩
    · rw [if_neg hc]
      have := hW.1
      exact ⟨bo_W_new hW (by omega) h.1 h.2.1 h.2.2.1 h.2.2.2.1 h.2.2.2.2.1 h.2.2.2.2.2 hf, bt_up_X⟩
-- what was made or found stands there
theorem bt_mk_at {T : bo_T} {k a b f : Nat} (h : (bt_mk T k a b).1 = some f) : f < (bt_mk T k a b).2.1 ∧ (bt_mk T k a b).2.2.1 f = k ∧ (bt_mk T k a b).2.2.2.1 f = a ∧ (bt_mk T k a b).2.2.2.2 f = b := by
  unfold bt_mk at h ⊢
  cases hf : bo_f T.2.1 T.2.2.1 T.2.2.2 k a b 0 T.1 with
  | some g =>
    rw [hf] at h
    dsimp only at h ⊢
    cases h
    obtain ⟨-, q2, q3, q4, q5⟩ := bo_f_some hf
    exact ⟨by omega, q3, q4, q5⟩
  | none =>
    rw [hf] at h
    dsimp only at h ⊢
    by_cases hc : T.1 = 28
    · rw [if_pos hc] at h; cases h
    · rw [if_neg hc] at h ⊢
      cases h
      simp [va_up]
-- what stands is found again
theorem bt_mk_old {T : bo_T} {k a b f : Nat} (hW : bt_W T) (hf : f < T.1) (h1 : T.2.1 f = k) (h2 : T.2.2.1 f = a) (h3 : T.2.2.2 f = b) : bt_mk T k a b = (some f, T) := by
  unfold bt_mk
  cases hs : bo_f T.2.1 T.2.2.1 T.2.2.2 k a b 0 T.1 with
  | none => exact absurd ⟨h1, h2, h3⟩ (bo_f_none hs f (by omega) (by omega))
  | some g =>
    dsimp only
    obtain ⟨-, q2, q3, q4, q5⟩ := bo_f_some hs
    have hg : g = f := by
      rcases Nat.lt_trichotomy g f with q | q | q
      · exact absurd ⟨q3.trans h1.symm, q4.trans h2.symm, q5.trans h3.symm⟩ ((hW.2 f hf).2.2.2.2.2.2 g q)
      · exact q
      · exact absurd ⟨h1.trans q3.symm, h2.trans q4.symm, h3.trans q5.symm⟩ ((hW.2 g (by omega)).2.2.2.2.2.2 f q)
    rw [hg]
theorem bk_mk {F : Nat} {T : bo_T} {PS : Nat → Nat} {m : xm_S} {k a b : Nat} (hW : bt_W T) (hC : bt_C T m) (hP : bt_P T PS m) (hG : bt_G T k a b) (hF : 28 < F) :
    ∃ (m' : xm_S) (PS' : Nat → Nat), bk_build F (nI k) (nI a) (nI b) m = some (bt_i (bt_mk T k a b).1, m') ∧ bt_C (bt_mk T k a b).2 m' ∧ bt_P (bt_mk T k a b).2 PS' m' ∧ (∀ j, j < T.1 → PS' j = PS j) := by
  have hs := bt_G_s hW hG
  unfold bt_mk
  cases hf : bo_f T.2.1 T.2.2.1 T.2.2.2 k a b 0 T.1 with
  | some f => exact ⟨m, PS, bk_hit hW.S hC hs hF hf, hC, hP, fun _ _ => rfl⟩
  | none =>
    dsimp only
    by_cases hc : T.1 = 28
    · rw [if_pos hc]; exact ⟨m, PS, bk_full hW.S hC hs hF hf hc, hC, hP, fun _ _ => rfl⟩
    · rw [if_neg hc]
      have h28 := hW.1
      obtain ⟨m', e1, e2, e3, e4⟩ := bk_new hW.S hC ⟨hG.1, hs.2⟩ hG.2.2.2.1 hG.2.2.2.2.1 hF hf (by omega)
      refine ⟨m', _, e1, e2, bo_P_new hW hP (by omega) hG.2.2.2.1 hG.2.2.2.2.1 e3 e4, fun j hj => ?_⟩
      have : j ≠ T.1 := by omega
      simp [va_up, this]
theorem mm_mk {F : Nat} {T : bo_T} {m : xm_S} {k a b : Nat} (hW : bt_W T) (hM : bt_M T m) (hG : bt_G T k a b) (hF : 28 < F) :
    ∃ m' : xm_S, mm_make F (nI k) (nI a) (nI b) m = some (bt_i (bt_mk T k a b).1, m') ∧ bt_M (bt_mk T k a b).2 m' ∧ (∀ j, j ≠ 0 → m'.1 35 j = m.1 35 j) := by
  have hs := bt_G_s hW hG
  unfold bt_mk
  cases hf : bo_f T.2.1 T.2.2.1 T.2.2.2 k a b 0 T.1 with
  | some f => exact ⟨m, mm_hit hW.S hM hs hF hf, hM, fun _ _ => rfl⟩
  | none =>
    dsimp only
    by_cases hc : T.1 = 28
    · rw [if_pos hc]; exact ⟨m, mm_full hW.S hM hs hF hf hc, hM, fun _ _ => rfl⟩
    · rw [if_neg hc]
      have h28 := hW.1
      exact mm_new hW.S hM hs hF hf (by omega)
-- frames of the book
theorem bt_C_f {l : List Nat} {T : bo_T} {m m' : xm_S} (h : bt_C T m) (g : xf_r l m m') (h1 : xf_in l 1 = false) (h2 : xf_in l 2 = false) (h3 : xf_in l 3 = false) (h4 : xf_in l 4 = false) : bt_C T m' := by
  unfold bt_C bo_C at *
  rw [(g 1 h1).1, (g 2 h2).1, (g 3 h3).1, (g 4 h4).1]
  exact h
theorem bt_P_f {l : List Nat} {T : bo_T} {PS : Nat → Nat} {m m' : xm_S} (h : bt_P T PS m) (g : xf_r l m m') (h5 : xf_in l 5 = false) : bt_P T PS m' := by
  unfold bt_P bo_P at *
  rw [(g 5 h5).1]
  exact h
theorem bt_M_f {l : List Nat} {T : bo_T} {m m' : xm_S} (h : bt_M T m) (g : xf_r l m m') (h1 : xf_in l 35 = false) (h2 : xf_in l 36 = false) (h3 : xf_in l 37 = false) (h4 : xf_in l 38 = false) : bt_M T m' := by
  unfold bt_M bo_M at *
  rw [(g 35 h1).1, (g 36 h2).1, (g 37 h3).1, (g 38 h4).1]
  exact h
-- the call formula
theorem fm_call {F : Nat} {T : bo_T} {PS : Nat → Nat} {m : xm_S} (x a b : Int32) (hW : bt_W T) (hC : bt_C T m) (hM : bt_M T m) (hP : bt_P T PS m) (hF : 28 < F) :
    ∃ (r : Int32) (m1 m2 : xm_S) (T' : bo_T) (PS' : Nat → Nat), mk_formula F x a b m = some (r, m1) ∧ mm_formula F x a b m1 = some (r, m2) ∧ bt_W T' ∧ bt_C T' m2 ∧ bt_M T' m2 ∧ bt_P T' PS' m2 ∧ bt_X T T' ∧ (∀ j, j < T.1 → PS' j = PS j) ∧ (∀ j, j ≠ 0 → m2.1 35 j = m.1 35 j) := by
  have bad : mk_formula F x a b m = some (-1, m) → mm_formula F x a b m = some (-1, m) → ∃ (r : Int32) (m1 m2 : xm_S) (T' : bo_T) (PS' : Nat → Nat), mk_formula F x a b m = some (r, m1) ∧ mm_formula F x a b m1 = some (r, m2) ∧ bt_W T' ∧ bt_C T' m2 ∧ bt_M T' m2 ∧ bt_P T' PS' m2 ∧ bt_X T T' ∧ (∀ j, j < T.1 → PS' j = PS j) ∧ (∀ j, j ≠ 0 → m2.1 35 j = m.1 35 j) := fun e1 e2 => ⟨-1, m, m, T, PS, e1, e2, hW, hC, hM, hP, bt_X_r, fun _ _ => rfl, fun _ _ => rfl⟩
  by_cases hx0 : x < 0
  · exact bad (fm_bad (Or.inl hx0)).1 (fm_bad (Or.inl hx0)).2
  by_cases hx8 : 8 < x
  · exact bad (fm_bad (Or.inr hx8)).1 (fm_bad (Or.inr hx8)).2
  obtain ⟨k, hk, rfl⟩ := i32_9 hx0 (Int32.not_lt.mp hx8)
  have f1 := fm_c (F := F) (a := a) (b := b) hC.1 hk
  by_cases hok : fm_ok k a b T.1
  · have hc28 : T.1 ≤ 28 := hW.1
    -- the arguments as numbers
    obtain ⟨i, hi⟩ : ∃ i : Nat, (if k ≤ 1 then (0 : Int32) else a) = nI i ∧ (k ≤ 1 → i = 0) ∧ (k = 2 ∨ k = 3 → i < 4) ∧ (4 ≤ k → i < T.1) := by
      by_cases q : k ≤ 1
      · exact ⟨0, by rw [if_pos q]; rfl, fun _ => rfl, fun q2 => by omega, fun q2 => by omega⟩
      · rw [if_neg q]
        by_cases q2 : 4 ≤ k
        · obtain ⟨j, hj, rfl⟩ := nI_of (hok.2.1 q2).1
          refine ⟨j, rfl, fun q3 => by omega, fun q3 => by omega, fun _ => ?_⟩
          have := (hok.2.1 q2).2
          rw [nI_leI (by omega) hj] at this
          omega
        · obtain ⟨g1, g2⟩ := hok.1 (by omega)
          obtain ⟨j, hj, rfl⟩ := nI_of g1
          refine ⟨j, rfl, fun q3 => by omega, fun _ => ?_, fun q3 => by omega⟩
          rw [show (4 : Int32) = nI 4 from rfl, nI_leI (by decide) hj] at g2
          omega
    obtain ⟨i2, hi2⟩ : ∃ i : Nat, (if k = 4 ∨ k = 5 ∨ k = 7 ∨ k = 8 then b else (0 : Int32)) = nI i ∧ (bo_two k → i < T.1) ∧ (¬ bo_two k → i = 0) := by
      by_cases q : k = 4 ∨ k = 5 ∨ k = 7 ∨ k = 8
      · rw [if_pos q]
        obtain ⟨g1, g2⟩ := hok.2.2 q
        obtain ⟨j, hj, rfl⟩ := nI_of g1
        refine ⟨j, rfl, fun _ => ?_, fun q2 => absurd q q2⟩
        rw [nI_leI (by omega) hj] at g2
        omega
      · exact ⟨0, by rw [if_neg q]; rfl, fun q2 => absurd q2 q, fun _ => rfl⟩
    have hG : bt_G T k i i2 := ⟨hk, hi.2.1, hi.2.2.1, hi.2.2.2, hi2.2.1, hi2.2.2⟩
    obtain ⟨m1, PS', e1, e2, e3, e4⟩ := bk_mk hW hC hP hG hF
    rw [f1.1 hok, hi.1, hi2.1, e1]
    have g := bk_build_fr e1
    have hM1 : bt_M T m1 := bt_M_f hM g rfl rfl rfl rfl
    obtain ⟨m2, e5, e6, e7⟩ := mm_mk hW hM1 hG hF
    have f2 := fm_m (F := F) (a := a) (b := b) hM1.1 hk
    have g2 := mm_make_fr e5
    refine ⟨_, m1, m2, _, PS', rfl, ?_, (bt_mk_W hW hG).1, bt_C_f e2 g2 rfl rfl rfl rfl, e6, bt_P_f e3 g2 rfl, (bt_mk_W hW hG).2, e4, fun j hj => ?_⟩
    · rw [f2.1 hok, hi.1, hi2.1, e5]
    · rw [e7 j hj, (g 35 rfl).1]
  · exact bad (f1.2 hok) ((fm_m (F := F) (a := a) (b := b) hM.1 hk).2 hok)
