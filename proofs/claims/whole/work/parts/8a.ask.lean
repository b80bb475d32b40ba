/-! size, gives, next: both sides alike. -/
theorem wn_size {m : xm_S} (a : Int32) (h : wn_R m m) : mk_size a m = mm_size a m := by
  obtain ⟨kd, c, x, y, -, -, -, ⟨c1, c2, c3, c4⟩, ⟨r1, r2, r3, r4⟩, -⟩ := h
  unfold mk_size mm_size
  rw [c2, c3, c4, r2, r3, r4]
theorem sg_o {i : Int32} (h0 : ¬ i < 0) (h4 : ¬ (4 : Int32) ≤ i) : ∃ o, o < 4 ∧ i = nI o := by
  obtain ⟨o, ho, rfl⟩ := nI_of h0
  refine ⟨o, ?_, rfl⟩
  have h4' : ¬ nI 4 ≤ nI o := h4
  rw [nI_leI (by decide) ho] at h4'
  omega
theorem wn_gives {F : Nat} {m : xm_S} (s i : Int32) (h : wn_R m m) : ∃ r, mk_gives F s i m = some (r, m) ∧ mm_gives F s i m = some (r, m) := by
  obtain ⟨kd, c, x, y, hk2, hc, hk0, ⟨c1, c2, c3, c4⟩, ⟨r1, r2, r3, r4⟩, hj⟩ := h
  unfold mk_gives mm_gives wi_knows mm_isThere mk_isSignal
  rw [c1, c2, r1, r2]
  by_cases hs0 : s < 0
  · refine ⟨-1, ?_, ?_⟩
    · rw [if_pos hs0, if_pos rfl]
    · rw [if_pos hs0]
      by_cases z : nI kd ≤ 0
      · rw [if_pos z, if_pos rfl]
      · rw [if_neg z, if_pos rfl]
  rw [if_neg hs0]
  by_cases hsc : nI c ≤ s
  · refine ⟨-1, ?_, ?_⟩
    · rw [if_pos hsc, if_pos rfl]
    · rw [if_neg hs0, if_pos hsc]
      by_cases z : nI kd ≤ 0
      · rw [if_pos z, if_pos rfl]
      · rw [if_neg z, if_pos rfl]
  obtain ⟨k, hk, rfl⟩ := nI_of hs0
  have hkc : k < c := by
    rw [nI_leI (by omega) hk] at hsc
    omega
  have hkd : kd = 1 ∨ kd = 2 := by
    rcases Nat.lt_trichotomy kd 1 with z | z | z
    · have := hk0 (by omega); omega
    · exact Or.inl z
    · exact Or.inr (by omega)
  rw [if_neg hsc, if_neg (show ¬ (1 : Int32) = 0 by decide), if_neg hs0, if_neg hsc]
  rcases hkd with rfl | rfl
  · rw [if_neg (show ¬ nI 1 = (2 : Int32) by decide), if_neg (show ¬ nI 1 = (2 : Int32) by decide), if_neg (show ¬ nI 1 ≤ 0 by decide)]
    by_cases i0 : i < 0
    · exact ⟨-1, by rw [if_pos i0, if_pos rfl], by rw [if_pos i0, if_pos rfl]⟩
    by_cases i4 : (4 : Int32) ≤ i
    · exact ⟨-1, by rw [if_neg i0, if_pos i4, if_pos rfl], by rw [if_neg i0, if_pos i4, if_pos rfl]⟩
    obtain ⟨o, ho, rfl⟩ := sg_o i0 i4
    rw [if_neg i0, if_neg i4, if_neg (show ¬ (1 : Int32) = 0 by decide), if_neg (show ¬ (1 : Int32) = 0 by decide), ix_w, ix_v, xg_nI (by omega) (by decide), xg_nI (by omega) (by decide), nI_clamp (by omega)]
    exact ⟨_, rfl, by rw [(hj (4 * k + o) (by omega)).1]⟩
  · rw [if_pos (show nI 2 = (2 : Int32) from rfl), if_pos (show nI 2 = (2 : Int32) from rfl), if_neg (show ¬ nI 2 ≤ 0 by decide), if_neg (show ¬ (0 : Int32) < 0 by decide), if_neg (show ¬ (4 : Int32) ≤ 0 by decide), if_neg (show ¬ (1 : Int32) = 0 by decide), show nI k * (4 : Int32) = nI (4 * k + 0) from by rw [show nI k * (4 : Int32) = nI (k * 4) from pk_mul k 4]; congr 1; omega, show (4 : Int32) * nI k + (0 : Int32) = nI (4 * k + 0) from ix_v k 0, xg_nI (by omega) (by decide), xg_nI (by omega) (by decide), nI_clamp (by omega)]
    exact ⟨_, rfl, by rw [(hj (4 * k + 0) (by omega)).1]⟩
theorem wn_next {F : Nat} {m : xm_S} (s i : Int32) (h : wn_R m m) : ∃ r, mk_next F s i m = some (r, m) ∧ mm_next F s i m = some (r, m) := by
  obtain ⟨kd, c, x, y, hk2, hc, hk0, ⟨c1, c2, c3, c4⟩, ⟨r1, r2, r3, r4⟩, hj⟩ := h
  unfold mk_next mm_next wi_knows mm_isThere mk_isSignal
  rw [c2, r1, r2]
  by_cases hs0 : s < 0
  · refine ⟨-1, ?_, ?_⟩
    · rw [if_pos hs0, if_pos rfl]
    · rw [if_pos hs0]
      by_cases z : nI kd ≤ 0
      · rw [if_pos z, if_pos rfl]
      · rw [if_neg z, if_pos rfl]
  rw [if_neg hs0]
  by_cases hsc : nI c ≤ s
  · refine ⟨-1, ?_, ?_⟩
    · rw [if_pos hsc, if_pos rfl]
    · rw [if_neg hs0, if_pos hsc]
      by_cases z : nI kd ≤ 0
      · rw [if_pos z, if_pos rfl]
      · rw [if_neg z, if_pos rfl]
  obtain ⟨k, hk, rfl⟩ := nI_of hs0
  have hkc : k < c := by
    rw [nI_leI (by omega) hk] at hsc
    omega
  have hkd : 0 < kd := by
    rcases Nat.lt_or_ge 0 kd with z | z
    · exact z
    · have := hk0 (by omega); omega
  rw [if_neg hsc, if_neg (show ¬ (1 : Int32) = 0 by decide), if_neg (nI_nle hkd (by omega)), if_neg hs0, if_neg hsc]
  by_cases i0 : i < 0
  · exact ⟨-1, by rw [if_pos i0, if_pos rfl], by rw [if_pos i0, if_pos rfl]⟩
  by_cases i4 : (4 : Int32) ≤ i
  · exact ⟨-1, by rw [if_neg i0, if_pos i4, if_pos rfl], by rw [if_neg i0, if_pos i4, if_pos rfl]⟩
  obtain ⟨o, ho, rfl⟩ := sg_o i0 i4
  rw [if_neg i0, if_neg i4, if_neg (show ¬ (1 : Int32) = 0 by decide), if_neg (show ¬ (1 : Int32) = 0 by decide), ix_w, ix_v, xg_nI (by omega) (by decide), xg_nI (by omega) (by decide), nI_clamp (by omega)]
  exact ⟨_, rfl, by rw [(hj (4 * k + o) (by omega)).2]⟩
theorem wn_k {m m' : xm_S} (h : wn_R m m) (h30 : m'.1 30 = m.1 30) (h33 : m'.1 33 = m.1 33) (h34 : m'.1 34 = m.1 34) (h55 : m'.1 55 = m.1 55) (h56 : m'.1 56 = m.1 56) (h35 : ∀ j, 23 ≤ j → j ≤ 26 → m'.1 35 j = m.1 35 j) : wn_R m' m' := by
  unfold wn_R at *
  rw [h30, h33, h34, h55, h56, h35 23 (by decide) (by decide), h35 24 (by decide) (by decide), h35 25 (by decide) (by decide), h35 26 (by decide) (by decide)]
  exact h
