/-! The class: raising a set of counters. -/
def ur_x (P : Nat → Nat) (X v : Nat) : Nat → Nat := fun t => if X.testBit t then (if P t ≤ v then v else P t) else P t
theorem gm_ar {F X k : Nat} {P : Nat → Nat} {m : xm_S} {kk : Int64 → xm_S → Option (Int64 × xm_S)} (hP : ∀ t, P t < 8) (hX : X < 2 ^ 16) (hk : k < 7) : ∀ (r i fu : Nat) (R : Nat → Nat), i + r = 16 → r < fu → (∀ t, R t = if t < i then ur_x P X (k + 1) t else P t) →
    ∃ R' : Nat → Nat, gm_allRaised_l6 F (nI X) (nI k) kk fu (lN (cd_n 16 R 16)) (nI i) m = kk (lN (cd_n 16 R' 16)) m ∧ ∀ t, t < 16 → R' t = ur_x P X (k + 1) t := by
  have hX31 : X < 2 ^ 31 := Nat.lt_of_lt_of_le hX (by decide)
  intro r
  induction r with
  | zero =>
    intro i fu R hi hfu hR
    obtain ⟨fu, rfl⟩ : ∃ g, fu = g + 1 := ⟨fu - 1, by omega⟩
    obtain rfl : i = 16 := by omega
    refine ⟨R, ?_, fun t ht => by rw [hR t, if_pos ht]⟩
    rw [gm_allRaised_l6, if_pos (show (16 : Int32) ≤ nI 16 by decide)]
  | succ r ih =>
    intro i fu R hi hfu hR
    obtain ⟨fu, rfl⟩ : ∃ g, fu = g + 1 := ⟨fu - 1, by omega⟩
    have hR8 : ∀ t, R t < 8 := fun t => by
      rw [hR t]
      have := hP t
      unfold ur_x
      split
      · split
        · split <;> omega
        · omega
      · omega
    rw [gm_allRaised_l6, if_neg (show ¬ (16 : Int32) ≤ nI i from nI_ge (b := 16) (by omega) (by decide)), nb_bit hX31 (by omega), nb_shr hX31 (by omega), nI_1]
    by_cases z : X / 2 ^ i = 0
    · rw [if_pos (by rw [z]; rfl)]
      have hlt : X < 2 ^ i := by
        rcases Nat.lt_or_ge X (2 ^ i) with y | y
        · exact y
        · have := Nat.div_pos y (Nat.two_pow_pos i); omega
      refine ⟨R, rfl, fun t ht => ?_⟩
      rw [hR t]
      by_cases e : t < i
      · rw [if_pos e]
      · rw [if_neg e]
        unfold ur_x
        rw [Nat.testBit_lt_two_pow (Nat.lt_of_lt_of_le hlt (Nat.pow_le_pow_right (by decide) (by omega)))]
        rfl
    · have hdl : X / 2 ^ i < 2 ^ 31 := Nat.lt_of_le_of_lt (Nat.div_le_self _ _) hX31
      rw [if_neg (nI_ne0 (Nat.pos_of_ne_zero z) hdl), nb_tb]
      by_cases hb : X.testBit i = true
      · rw [if_pos hb, if_neg (show ¬ nI 1 = 0 by decide), gm_r hR8 (by omega) hk]
        exact ih (i + 1) fu _ (by omega) (by omega) (fun t => by
          unfold up_x va_up
          by_cases e : t = i
          · have hRi : R i = P i := by rw [hR i, if_neg (by omega)]
            rw [if_pos e, e, if_pos (show i < i + 1 by omega), hRi]
            unfold ur_x
            rw [if_pos hb]
          · rw [if_neg e, hR t]
            by_cases e2 : t < i
            · rw [if_pos e2, if_pos (by omega)]
            · rw [if_neg e2, if_neg (by omega)])
      · rw [if_neg hb, if_pos (show nI 0 = 0 from rfl)]
        exact ih (i + 1) fu R (by omega) (by omega) (fun t => by
          rw [hR t]
          by_cases e2 : t < i
          · rw [if_pos e2, if_pos (by omega)]
          · rw [if_neg e2]
            by_cases e : t = i
            · rw [if_pos (by omega), e]
              unfold ur_x
              rw [if_neg hb]
            · rw [if_neg (by omega)])
theorem gm_all {F X k : Nat} {P : Nat → Nat} {m : xm_S} (hF : 100 < F) (hP : ∀ t, P t < 8) (hX : X < 2 ^ 16) (hk : k < 7) : gm_allRaised F (lN (cd_n 16 P 16)) (nI X) (nI k) m = some (lN (cd_n 16 (ur_x P X (k + 1)) 16), m) := by
  unfold gm_allRaised
  obtain ⟨R, h1, h2⟩ := gm_ar (F := F) (m := m) (kk := fun x m => some (x, m)) hP hX hk 16 0 F P (by omega) (by omega) (fun t => by rw [if_neg (by omega)])
  rw [cd_ext (b := 16) (n := 16) h2] at h1
  exact h1
