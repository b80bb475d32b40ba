/-! The class: building the automaton, the whole. -/
theorem bc_2 {F f : Nat} {T : bo_T} {PS : Nat → Nat} {kk : Nat → xm_S → Option (Int32 × Nat × xm_S)} (hF : 100 < F) (hW : bt_W T) (hf : f < T.1) : ∀ (r l fu N : Nat) (m : xm_S), l + r = 16 → r < fu → bt_C T m → bt_P T PS m → kt_I T N m → (∀ l', l' < l → ok_w T PS l' f ∧ ∀ p, p ≤ f → (PS f).testBit p = true → ¬ m.1 12 (16 * p + l') = -1 ∧ ¬ m.1 12 (16 * p + l') = -2) →
    ∃ (N' : Nat) (m' : xm_S), N ≤ N' ∧ kt_I T N' m' ∧ xf_r fl_wt_learn m m' ∧ ((au_build_l2 F (nI f) kk fu (nI l) N m = kk N' m' ∧ (∀ l', l' < 16 → ok_w T PS l' f) ∧ kr_K T PS f N' m') ∨ (au_build_l2 F (nI f) kk fu (nI l) N m = some (0, N', m') ∧ ¬ ∀ l', l' < 16 → ok_w T PS l' f)) := by
  have h28 := hW.1
  intro r
  induction r with
  | zero =>
    intro l fu N m hl hfu hC hP hI hK
    obtain ⟨fu, rfl⟩ : ∃ g, fu = g + 1 := ⟨fu - 1, by omega⟩
    obtain rfl : l = 16 := by omega
    refine ⟨N, m, Nat.le_refl _, hI, xf_0, Or.inl ⟨?_, fun l' h => (hK l' h).1, fun l' h j hj => ?_⟩⟩
    · rw [au_build_l2, if_pos (show (16 : Int32) ≤ nI 16 by decide)]
    · have hp := (hP f hf).2.1
      have hjf : j ≤ f := by
        rcases Nat.lt_or_ge f j with z | z
        · rw [Nat.testBit_lt_two_pow (Nat.lt_of_lt_of_le hp (Nat.pow_le_pow_right (by decide) (by omega)))] at hj
          cases hj
        · exact z
      obtain ⟨a, b⟩ := (hK l' h).2 j hjf hj
      exact (kt_I_g hI (by omega) h a b).2
  | succ r ih =>
    intro l fu N m hl hfu hC hP hI hK
    obtain ⟨fu, rfl⟩ : ∃ g, fu = g + 1 := ⟨fu - 1, by omega⟩
    have hl16 : l < 16 := by omega
    rw [au_build_l2, if_neg (show ¬ (16 : Int32) ≤ nI l from nI_ge (b := 16) hl16 (by decide)), nI_1]
    obtain ⟨v, N1, m1, e1, e2, e3, e4, e5⟩ := wt_learns (F := F) hF hW hf hl16 hC hP hI
    have g1 := wt_learn_fr e1
    rw [e1]
    simp only [xc_a, Nat.ble_eq_true_of_le e2, cond_true]
    rcases e5 with ⟨v1, v2, v3⟩ | ⟨v0, v2⟩
    · rw [if_neg (by rw [v1]; decide)]
      obtain ⟨N', m', d1, d2, d3, d4⟩ := ih (l + 1) fu N1 m1 (by omega) (by omega) (bt_C_f hC g1 rfl rfl rfl rfl) (bt_P_f hP g1 rfl) e3 (fun l' h => by
        by_cases e : l' = l
        · subst e; exact ⟨v2, v3⟩
        · obtain ⟨a, b⟩ := hK l' (by omega)
          refine ⟨a, fun p h1 h2 => ?_⟩
          rw [e4 _ (b p h1 h2).1]
          exact b p h1 h2)
      exact ⟨N', m', Nat.le_trans e2 d1, d2, xf_t g1 d3, d4⟩
    · rw [if_pos v0]
      exact ⟨N1, m1, e2, e3, g1, Or.inr ⟨rfl, fun z => v2 (z l hl16)⟩⟩
