/-! The call formula: both sides alike. -/
theorem xc_id {α : Type} {e : Option (α × xm_S)} : xc_m e (fun v m => some (v, m)) = e := by
  cases e with
  | none => rfl
  | some q => rfl
theorem i32_9 {x : Int32} (h0 : ¬ x < 0) (h8 : x ≤ 8) : ∃ k : Nat, k ≤ 8 ∧ x = nI k := nI_of2 (M := 8) (n := 8) (by decide) h0 h8
-- whether the arguments are good, as one condition
def fm_ok (k : Nat) (a b : Int32) (c : Nat) : Prop := ((k = 2 ∨ k = 3) → ¬ a < 0 ∧ ¬ (4 : Int32) ≤ a) ∧ (4 ≤ k → ¬ a < 0 ∧ ¬ nI c ≤ a) ∧ (bo_two k → ¬ b < 0 ∧ ¬ nI c ≤ b)
theorem fm_e {k n : Nat} (hk : k ≤ 8) (hn : n ≤ 8) : (nI k = nI n) ↔ k = n := nI_eq (by omega) (by omega)
theorem fm_l {k n : Nat} (hk : k ≤ 8) (hn : n ≤ 8) : (nI k ≤ nI n) ↔ k ≤ n := nI_leI (by omega) (by omega)
theorem fm_two {k : Nat} (hk : k ≤ 8) : bk_hasTwoParts (nI k) = (if k = 4 ∨ k = 5 ∨ k = 7 ∨ k = 8 then 1 else 0) := by
  have : ∀ k, k ≤ 8 → bk_hasTwoParts (nI k) = (if k = 4 ∨ k = 5 ∨ k = 7 ∨ k = 8 then 1 else 0) := by decide
  exact this k hk
theorem fm_mtw {k : Nat} (hk : k ≤ 8) : mm_hasTwo (nI k) = (if k = 4 ∨ k = 5 ∨ k = 7 ∨ k = 8 then 1 else 0) := by
  have : ∀ k, k ≤ 8 → mm_hasTwo (nI k) = (if k = 4 ∨ k = 5 ∨ k = 7 ∨ k = 8 then 1 else 0) := by decide
  exact this k hk
theorem fm_c {F c k : Nat} {a b : Int32} {m : xm_S} (hm : m.1 1 5 = nI c) (hk : k ≤ 8) : (fm_ok k a b c → mk_formula F (nI k) a b m = bk_build F (nI k) (if k ≤ 1 then 0 else a) (if k = 4 ∨ k = 5 ∨ k = 7 ∨ k = 8 then b else 0) m) ∧ (¬ fm_ok k a b c → mk_formula F (nI k) a b m = some (-1, m)) := by
  have hcase : k = 0 ∨ k = 1 ∨ k = 2 ∨ k = 3 ∨ k = 4 ∨ k = 5 ∨ k = 6 ∨ k = 7 ∨ k = 8 := by omega
  have c0 : (nI k = 0) ↔ k = 0 := fm_e (n := 0) hk (by decide)
  have c1 : (nI k = 1) ↔ k = 1 := fm_e (n := 1) hk (by decide)
  have c2 : (nI k = 2) ↔ k = 2 := fm_e (n := 2) hk (by decide)
  have c3 : (nI k = 3) ↔ k = 3 := fm_e (n := 3) hk (by decide)
  have c6 : (nI k = 6) ↔ k = 6 := fm_e (n := 6) hk (by decide)
  unfold mk_formula fm_ok bo_two bk_canBuild bk_looksAtFirst bk_looksAtSecond bk_knows
  simp only [xc_id, fm_two hk, c0, c1, c2, c3, c6, hm]
  rcases hcase with rfl | rfl | rfl | rfl | rfl | rfl | rfl | rfl | rfl <;> by_cases h1 : a < 0 <;> by_cases h2 : nI c ≤ a <;> by_cases h3 : b < 0 <;> by_cases h4 : nI c ≤ b <;> by_cases h5 : (4 : Int32) ≤ a <;> simp [h1, h2, h3, h4, h5]
theorem fm_m {F c k : Nat} {a b : Int32} {m : xm_S} (hm : m.1 35 0 = nI c) (hk : k ≤ 8) : (fm_ok k a b c → mm_formula F (nI k) a b m = mm_make F (nI k) (if k ≤ 1 then 0 else a) (if k = 4 ∨ k = 5 ∨ k = 7 ∨ k = 8 then b else 0) m) ∧ (¬ fm_ok k a b c → mm_formula F (nI k) a b m = some (-1, m)) := by
  have hcase : k = 0 ∨ k = 1 ∨ k = 2 ∨ k = 3 ∨ k = 4 ∨ k = 5 ∨ k = 6 ∨ k = 7 ∨ k = 8 := by omega
  have h53 : a ≤ 3 ↔ ¬ (4 : Int32) ≤ a := by
    rw [Int32.le_iff_toInt_le, Int32.le_iff_toInt_le, show (3 : Int32).toInt = 3 from by decide, show (4 : Int32).toInt = 4 from by decide]
    omega
  have n0 : ¬ nI k < 0 := nI_pos (by omega)
  have l8 : (nI k ≤ 8) ↔ k ≤ 8 := fm_l (n := 8) hk (by decide)
  have l1 : (nI k ≤ 1) ↔ k ≤ 1 := fm_l (n := 1) hk (by decide)
  have l3 : (nI k ≤ 3) ↔ k ≤ 3 := fm_l (n := 3) hk (by decide)
  have c2 : (nI k = 2) ↔ k = 2 := fm_e (n := 2) hk (by decide)
  have c3 : (nI k = 3) ↔ k = 3 := fm_e (n := 3) hk (by decide)
  unfold mm_formula fm_ok bo_two mm_isFormula
  simp only [xc_id, xj_j, h53, fm_mtw hk, n0, l8, l1, l3, c2, c3, hk, hm]
  rcases hcase with rfl | rfl | rfl | rfl | rfl | rfl | rfl | rfl | rfl <;> by_cases h1 : a < 0 <;> by_cases h2 : nI c ≤ a <;> by_cases h3 : b < 0 <;> by_cases h4 : nI c ≤ b <;> by_cases h5 : (4 : Int32) ≤ a <;> simp [h1, h2, h3, h4, h5]
theorem fm_bad {F : Nat} {x a b : Int32} {m : xm_S} (h : x < 0 ∨ 8 < x) : mk_formula F x a b m = some (-1, m) ∧ mm_formula F x a b m = some (-1, m) := by
  have hx : ∀ n : Nat, n ≤ 8 → ¬ x = nI n := by
    intro n hn e
    subst e
    rcases h with h | h
    · exact nI_pos (by omega) h
    · exact absurd h (nI_nlt (b := n) (a := 8) hn (by decide))
  have x0 : ¬ x = 0 := hx 0 (by decide)
  have x1 : ¬ x = 1 := hx 1 (by decide)
  have x2 : ¬ x = 2 := hx 2 (by decide)
  have x3 : ¬ x = 3 := hx 3 (by decide)
  have x4 : ¬ x = 4 := hx 4 (by decide)
  have x5 : ¬ x = 5 := hx 5 (by decide)
  have x6 : ¬ x = 6 := hx 6 (by decide)
  have x7 : ¬ x = 7 := hx 7 (by decide)
  have x8 : ¬ x = 8 := hx 8 (by decide)
  constructor
  · unfold mk_formula bk_canBuild bk_hasTwoParts
    simp [x0, x1, x2, x3, x4, x5, x6, x7, x8]
  · unfold mm_formula
    rcases h with h | h
    · rw [if_pos h]
    · by_cases h1 : x < 0
      · rw [if_pos h1]
      · rw [if_neg h1, if_neg (Int32.not_le.mpr h)]
