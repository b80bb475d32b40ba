/-! A formula is made, or found, both sides. -/
def bo_two (k : Nat) : Prop := k = 4 ∨ k = 5 ∨ k = 7 ∨ k = 8
theorem bk_two {k : Nat} (h : k ≤ 8) : (bk_hasTwoParts (nI k) = 0 ↔ ¬ bo_two k) := by
  have : ∀ k, k ≤ 8 → (bk_hasTwoParts (nI k) = 0 ↔ ¬ (k = 4 ∨ k = 5 ∨ k = 7 ∨ k = 8)) := by decide
  exact this k h
theorem bk_parts {k : Nat} (h : k ≤ 8) : (bk_hasParts (nI k) = 0 ↔ k < 4) := by
  have : ∀ k, k ≤ 8 → (bk_hasParts (nI k) = 0 ↔ k < 4) := by decide
  exact this k h
theorem mm_two {k : Nat} (h : k ≤ 8) : (mm_hasTwo (nI k) = 0 ↔ ¬ bo_two k) := by
  have : ∀ k, k ≤ 8 → (mm_hasTwo (nI k) = 0 ↔ ¬ (k = 4 ∨ k = 5 ∨ k = 7 ∨ k = 8)) := by decide
  exact this k h
-- the set of parts of a formula that is made at c
def bo_pv (m : xm_S) (k c a b : Nat) : Int32 :=
  let x0 := (1 : Int32) <<< (nI c &&& 31)
  let x1 := if 4 ≤ k then x0 ||| m.1 5 a else x0
  if k = 4 ∨ k = 5 ∨ k = 7 ∨ k = 8 then x1 ||| m.1 5 b else x1
section BOOK
variable {F c : Nat} {K A B : Nat → Nat} {m : xm_S} {k a b : Nat}
theorem bk_l3z {kk : xm_S → Option (Int32 × xm_S)} (hs : bo_S c K A B) (hm : bo_C c K A B m) (hk : k < 28 ∧ a < 28 ∧ b < 28) (hF : 28 < F) : bk_build_l3 F (nI k) (nI a) (nI b) kk F (0 : Int32) m = match bo_f K A B k a b 0 c with
      | some f => some (nI f, m)
      | none => kk m := bk_l3 hs hm hk c F 0 (by omega) (by have := hs.1; omega)
theorem mm_l3z {kk : xm_S → Option (Int32 × xm_S)} (hs : bo_S c K A B) (hm : bo_M c K A B m) (hk : k < 28 ∧ a < 28 ∧ b < 28) (hF : 28 < F) : mm_make_l3 F (nI k) (nI a) (nI b) kk F (0 : Int32) m = match bo_f K A B k a b 0 c with
      | some f => some (nI f, m)
      | none => kk m := mm_l3 hs hm hk c F 0 (by omega) (by have := hs.1; omega)
theorem bk_hit {f : Nat} (hs : bo_S c K A B) (hm : bo_C c K A B m) (hk : k < 28 ∧ a < 28 ∧ b < 28) (hF : 28 < F) (hf : bo_f K A B k a b 0 c = some f) : bk_build F (nI k) (nI a) (nI b) m = some (nI f, m) := by
  unfold bk_build
  rw [bk_l3z hs hm hk hF, hf]
theorem bk_full (hs : bo_S c K A B) (hm : bo_C c K A B m) (hk : k < 28 ∧ a < 28 ∧ b < 28) (hF : 28 < F) (hf : bo_f K A B k a b 0 c = none) (hc : c = 28) : bk_build F (nI k) (nI a) (nI b) m = some (-2, m) := by
  unfold bk_build
  rw [bk_l3z hs hm hk hF, hf]
  dsimp only
  rw [hm.1, hc, if_neg (by decide)]
theorem bk_new (hs : bo_S c K A B) (hm : bo_C c K A B m) (hk : k ≤ 8 ∧ a < 28 ∧ b < 28) (ha : 4 ≤ k → a < c) (hb : bo_two k → b < c) (hF : 28 < F) (hf : bo_f K A B k a b 0 c = none) (hc : c < 28) :
    ∃ m' : xm_S, bk_build F (nI k) (nI a) (nI b) m = some (nI c, m') ∧ bo_C (c + 1) (va_up K c k) (va_up A c a) (va_up B c b) m' ∧ m'.1 5 c = bo_pv m k c a b ∧ (∀ j, j ≠ c → m'.1 5 j = m.1 5 j) := by
  unfold bk_build
  rw [bk_l3z hs hm ⟨by omega, hk.2⟩ hF, hf]
  dsimp only
  rw [hm.1, if_pos (show nI c < (28 : Int32) from nI_lt hc (by decide))]
  simp only [xg_nI hc (show 28 < 2 ^ 31 by decide), xg_nI hk.2.1 (show 28 < 2 ^ 31 by decide), xg_nI hk.2.2 (show 28 < 2 ^ 31 by decide), nI_clamp (show c < 2 ^ 31 by omega), nI_clamp (show a < 2 ^ 31 by omega), nI_clamp (show b < 2 ^ 31 by omega), xs_m, xj_j]
  have hcc : ∀ m' : xm_S, m'.1 1 5 = nI (c + 1) → m'.1 2 c = nI k → m'.1 3 c = nI a → m'.1 4 c = nI b → (∀ j, j ≠ c → m'.1 2 j = m.1 2 j ∧ m'.1 3 j = m.1 3 j ∧ m'.1 4 j = m.1 4 j) → bo_C (c + 1) (va_up K c k) (va_up A c a) (va_up B c b) m' := by
    intro m' e1 e2 e3 e4 e5
    refine ⟨e1, fun j hj => ?_⟩
    by_cases hjc : j = c
    · subst hjc
      simp [va_up, e2, e3, e4]
    · obtain ⟨q1, q2, q3⟩ := hm.2 j (by omega)
      obtain ⟨r1, r2, r3⟩ := e5 j hjc
      simp [va_up, hjc, r1, r2, r3, q1, q2, q3]
  have hac : 4 ≤ k → a ≠ c := fun q => Nat.ne_of_lt (ha q)
  have hbc : bo_two k → b ≠ c := fun q => Nat.ne_of_lt (hb q)
  by_cases h4 : 4 ≤ k
  · rw [if_neg (fun q => absurd ((bk_parts hk.1).mp q) (by omega))]
    by_cases h2 : bo_two k
    · rw [if_neg (fun q => (bk_two hk.1).mp q h2)]
      refine ⟨_, rfl, hcc _ ?_ ?_ ?_ ?_ ?_, ?_, ?_⟩
      · simp [xw_i, xu_2, hm.1, nI_succ]
      · simp [xw_i, xu_2]
      · simp [xw_i, xu_2]
      · simp [xw_i, xu_2]
      · intro j hj; simp [xw_i, xu_2, hj]
      · have h2' : k = 4 ∨ k = 5 ∨ k = 7 ∨ k = 8 := h2
        simp [xw_i, xu_2, bo_pv, h4, h2', hac h4, hbc h2]
      · intro j hj; simp [xw_i, xu_2, hj]
    · rw [if_pos ((bk_two hk.1).mpr h2)]
      refine ⟨_, rfl, hcc _ ?_ ?_ ?_ ?_ ?_, ?_, ?_⟩
      · simp [xw_i, xu_2, hm.1, nI_succ]
      · simp [xw_i, xu_2]
      · simp [xw_i, xu_2]
      · simp [xw_i, xu_2]
      · intro j hj; simp [xw_i, xu_2, hj]
      · have h2' : ¬ (k = 4 ∨ k = 5 ∨ k = 7 ∨ k = 8) := h2
        simp [xw_i, xu_2, bo_pv, h4, h2', hac h4]
      · intro j hj; simp [xw_i, xu_2, hj]
  · rw [if_pos ((bk_parts hk.1).mpr (by omega))]
    have h2 : ¬ bo_two k := by unfold bo_two; omega
    rw [if_pos ((bk_two hk.1).mpr h2)]
    refine ⟨_, rfl, hcc _ ?_ ?_ ?_ ?_ ?_, ?_, ?_⟩
    · simp [xw_i, xu_2, hm.1, nI_succ]
    · simp [xw_i, xu_2]
    · simp [xw_i, xu_2]
    · simp [xw_i, xu_2]
    · intro j hj; simp [xw_i, xu_2, hj]
    · have h2' : ¬ (k = 4 ∨ k = 5 ∨ k = 7 ∨ k = 8) := h2
      simp [xw_i, xu_2, bo_pv, h4, h2']
    · intro j hj; simp [xw_i, xu_2, hj]
theorem mm_hit {f : Nat} (hs : bo_S c K A B) (hm : bo_M c K A B m) (hk : k < 28 ∧ a < 28 ∧ b < 28) (hF : 28 < F) (hf : bo_f K A B k a b 0 c = some f) : mm_make F (nI k) (nI a) (nI b) m = some (nI f, m) := by
  unfold mm_make
  rw [mm_l3z hs hm hk hF, hf]
theorem mm_full (hs : bo_S c K A B) (hm : bo_M c K A B m) (hk : k < 28 ∧ a < 28 ∧ b < 28) (hF : 28 < F) (hf : bo_f K A B k a b 0 c = none) (hc : c = 28) : mm_make F (nI k) (nI a) (nI b) m = some (-2, m) := by
  unfold mm_make
  rw [mm_l3z hs hm hk hF, hf]
  dsimp only
  rw [hm.1, hc, if_pos (by decide)]
theorem mm_new (hs : bo_S c K A B) (hm : bo_M c K A B m) (hk : k < 28 ∧ a < 28 ∧ b < 28) (hF : 28 < F) (hf : bo_f K A B k a b 0 c = none) (hc : c < 28) :
    ∃ m' : xm_S, mm_make F (nI k) (nI a) (nI b) m = some (nI c, m') ∧ bo_M (c + 1) (va_up K c k) (va_up A c a) (va_up B c b) m' ∧ (∀ j, j ≠ 0 → m'.1 35 j = m.1 35 j) := by
  unfold mm_make
  rw [mm_l3z hs hm hk hF, hf]
  dsimp only
  rw [hm.1, if_neg (fun q => by have q2 := (nI_eq (b := 28) (by omega) (by decide)).mp q; omega)]
  simp only [xs_m, xi_k (show (35 : Nat) ≠ 36 by decide), xi_k (show (35 : Nat) ≠ 37 by decide), xi_k (show (35 : Nat) ≠ 38 by decide), hm.1, xg_nI hc (show 28 < 2 ^ 31 by decide), nI_clamp (show c < 2 ^ 31 by omega), xi_s]
  rw [show nI c + 1 = nI (c + 1) from (nI_succ c).symm, nI_pred]
  refine ⟨_, rfl, ⟨xi_s, fun j hj => ?_⟩, fun j hj => by simp [xw_i, xu_2, hj]⟩
  by_cases hjc : j = c
  · subst hjc
    simp [xw_i, xu_2, va_up]
  · obtain ⟨q1, q2, q3⟩ := hm.2 j (by omega)
    simp [xw_i, xu_2, va_up, hjc, q1, q2, q3]
end BOOK
