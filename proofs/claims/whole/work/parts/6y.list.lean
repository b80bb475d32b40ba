/-! Lists of states, both sides. -/
def sq_u (q : Nat → Nat × Nat) (n : Nat) (t : Nat × Nat) : Nat → Nat × Nat := fun i => if i = n then t else q i
theorem sq_n {q : Nat → Nat × Nat} {n : Nat} {t : Nat × Nat} : sq_u q n t n = t := by simp [sq_u]
theorem sq_o {q : Nat → Nat × Nat} {n i : Nat} {t : Nat × Nat} (h : i ≠ n) : sq_u q n t i = q i := by simp [sq_u, h]
def sq_b (t : Nat × Nat) : Prop := t.1 < 2 ^ 28 ∧ t.2 ≤ 28
theorem sq_e {a b : Nat × Nat} (ha : sq_b a) (hb : sq_b b) : (nI a.1 = nI b.1 ∧ nI a.2 = nI b.2) ↔ a = b := by
  obtain ⟨a1, a2⟩ := ha
  obtain ⟨b1, b2⟩ := hb
  rw [nI_eq (Nat.lt_of_lt_of_le a1 (by decide)) (Nat.lt_of_lt_of_le b1 (by decide)), nI_eq (by omega) (by omega)]
  constructor
  · intro ⟨h1, h2⟩; exact Prod.ext h1 h2
  · intro h; rw [h]; exact ⟨rfl, rfl⟩
-- the class's list
def as_C (q : Nat → Nat × Nat) (n : Nat) (m : xm_S) : Prop := m.1 20 6 = nI n ∧ n ≤ 16 ∧ ∀ i, i < n → sq_b (q i) ∧ m.1 22 i = nI (q i).1 ∧ m.1 23 i = nI (q i).2
theorem so_c2 {F n : Nat} {q : Nat → Nat × Nat} {t : Nat × Nat} {m : xm_S} {kk : xm_S → Option (Int32 × xm_S)} (hL : as_C q n m) (ht : sq_b t) : ∀ (r i fu : Nat), i + r = n → r < fu → (∀ j, j < i → q j ≠ t) →
    (∃ j, j < n ∧ q j = t ∧ au_stateOf_l2 F (nI t.1) (nI t.2) kk fu (nI i) m = some (nI j, m)) ∨ ((∀ j, j < n → q j ≠ t) ∧ au_stateOf_l2 F (nI t.1) (nI t.2) kk fu (nI i) m = kk m) := by
  obtain ⟨h1, h2, h3⟩ := hL
  intro r
  induction r with
  | zero =>
    intro i fu hi hfu hj
    obtain ⟨fu, rfl⟩ : ∃ g, fu = g + 1 := ⟨fu - 1, by omega⟩
    obtain rfl : i = n := by omega
    refine Or.inr ⟨hj, ?_⟩
    rw [au_stateOf_l2, h1, if_pos (nI_le (Nat.le_refl _) (by omega))]
  | succ r ih =>
    intro i fu hi hfu hj
    obtain ⟨fu, rfl⟩ : ∃ g, fu = g + 1 := ⟨fu - 1, by omega⟩
    obtain ⟨b1, b2, b3⟩ := h3 i (by omega)
    rw [au_stateOf_l2, h1, if_neg (nI_ge (by omega) (by omega)), xg_nI (by omega) (by decide), xg_nI (by omega) (by decide), nI_clamp (by omega), b2, b3, nI_1]
    by_cases e : q i = t
    · obtain ⟨e1, e2⟩ := (sq_e b1 ht).mpr e
      rw [if_pos e1, if_pos e2]
      exact Or.inl ⟨i, by omega, e, rfl⟩
    · have next := ih (i + 1) fu (by omega) (by omega) (fun j h => by
        by_cases e2 : j = i
        · subst e2; exact e
        · exact hj j (by omega))
      by_cases e1 : nI (q i).1 = nI t.1
      · rw [if_pos e1]
        by_cases e2 : nI (q i).2 = nI t.2
        · exact absurd ((sq_e b1 ht).mp ⟨e1, e2⟩) e
        · rw [if_neg e2]; exact next
      · rw [if_neg e1]; exact next
theorem so_c {F n : Nat} {q : Nat → Nat × Nat} {t : Nat × Nat} {m : xm_S} (hF : 100 < F) (hL : as_C q n m) (ht : sq_b t) :
    (∃ j, j < n ∧ q j = t ∧ au_stateOf F (nI t.1) (nI t.2) m = some (nI j, m)) ∨ ((∀ j, j < n → q j ≠ t) ∧ ((n < 16 ∧ ∃ m' : xm_S, au_stateOf F (nI t.1) (nI t.2) m = some (nI n, m') ∧ as_C (sq_u q n t) (n + 1) m' ∧ xf_r [20, 22, 23] m m' ∧ (∀ j, j ≠ 6 → m'.1 20 j = m.1 20 j)) ∨ (n = 16 ∧ au_stateOf F (nI t.1) (nI t.2) m = some (-1, m)))) := by
  have hL0 := hL
  obtain ⟨h1, h2, h3⟩ := hL
  unfold au_stateOf
  rcases so_c2 (F := F) (kk := fun (m662 : xm_S) => if (m662.1 20 6) < (16 : Int32) then xg_n (m662.1 20 6) 16 (xs_m (xw_i m662 22 (m662.1 20 6).toNatClampNeg (nI t.1)) fun m665 => xg_n (m665.1 20 6) 16 (xs_m (xw_i m665 23 (m665.1 20 6).toNatClampNeg (nI t.2)) fun m668 => xs_m (xw_i m668 20 6 ((m668.1 20 6) + (1 : Int32))) fun m670 => some ((m670.1 20 6) - (1 : Int32), m670))) else some ((-1 : Int32), m662)) hL0 ht n 0 F (by omega) (by omega) (fun j hj => by omega) with ⟨j, a1, a2, a3⟩ | ⟨a1, a2⟩
  · exact Or.inl ⟨j, a1, a2, a3⟩
  · refine Or.inr ⟨a1, ?_⟩
    have a2' : au_stateOf_l2 F (nI t.1) (nI t.2) _ F (0 : Int32) m = _ := a2
    rw [a2', h1]
    by_cases hn : n < 16
    · refine Or.inl ⟨hn, ?_⟩
      rw [if_pos (show nI n < (16 : Int32) from nI_lt (b := 16) hn (by decide))]
      have v1 : (xw_i m 22 n (nI t.1)).1 20 6 = nI n := by rw [xi_k (by decide), h1]
      have v2 : (xw_i (xw_i m 22 n (nI t.1)) 23 n (nI t.2)).1 20 6 = nI n := by rw [xi_k (by decide), v1]
      have v3 : (xw_i (xw_i (xw_i m 22 n (nI t.1)) 23 n (nI t.2)) 20 6 (nI (n + 1))).1 20 6 = nI (n + 1) := xi_s
      simp only [xs_m, xg_nI hn (show 16 < 2 ^ 31 by decide), nI_clamp (show n < 2 ^ 31 by omega), v1, v2, nI_1, v3, nI_pred]
      refine ⟨_, rfl, ⟨v3, by omega, fun i hi => ?_⟩, xf_t (xf_t (xf_i rfl) (xf_i rfl)) (xf_i rfl), fun j hj => by rw [xi_j hj, xi_k (by decide), xi_k (by decide)]⟩
      rw [xi_k (show (22 : Nat) ≠ 20 by decide), xi_k (show (22 : Nat) ≠ 23 by decide), xi_k (show (23 : Nat) ≠ 20 by decide)]
      by_cases e : i = n
      · subst e
        rw [sq_n, xi_s, xi_s]
        exact ⟨ht, rfl, rfl⟩
      · rw [sq_o e, xi_j e, xi_j e, xi_k (show (23 : Nat) ≠ 22 by decide)]
        exact h3 i (by omega)
    · refine Or.inr ⟨by omega, ?_⟩
      rw [if_neg (show ¬ nI n < (16 : Int32) from nI_nlt (b := 16) (by omega) (by omega))]
-- the reference's list: it may have a seventeenth
def as_M (q : Nat → Nat × Nat) (n : Nat) (m : xm_S) : Prop := m.1 35 11 = nI n ∧ n ≤ 17 ∧ ∀ i, i < n → sq_b (q i) ∧ m.1 45 i = nI (q i).1 ∧ m.1 46 i = nI (q i).2
theorem so_m2 {F n : Nat} {q : Nat → Nat × Nat} {t : Nat × Nat} {m : xm_S} {kk : xm_S → Option (Int32 × xm_S)} (hL : as_M q n m) (ht : sq_b t) : ∀ (r i fu : Nat), i + r = n → r < fu → (∀ j, j < i → q j ≠ t) →
    (∃ j, j < n ∧ q j = t ∧ mm_stateOf_l2 F (nI t.1) (nI t.2) kk fu (nI i) m = some (nI j, m)) ∨ ((∀ j, j < n → q j ≠ t) ∧ mm_stateOf_l2 F (nI t.1) (nI t.2) kk fu (nI i) m = kk m) := by
  obtain ⟨h1, h2, h3⟩ := hL
  intro r
  induction r with
  | zero =>
    intro i fu hi hfu hj
    obtain ⟨fu, rfl⟩ : ∃ g, fu = g + 1 := ⟨fu - 1, by omega⟩
    obtain rfl : i = n := by omega
    refine Or.inr ⟨hj, ?_⟩
    rw [mm_stateOf_l2, h1, if_pos (nI_le (Nat.le_refl _) (by omega))]
  | succ r ih =>
    intro i fu hi hfu hj
    obtain ⟨fu, rfl⟩ : ∃ g, fu = g + 1 := ⟨fu - 1, by omega⟩
    obtain ⟨b1, b2, b3⟩ := h3 i (by omega)
    rw [mm_stateOf_l2, h1, if_neg (nI_ge (by omega) (by omega)), xg_nI (by omega) (by decide), xg_nI (by omega) (by decide), nI_clamp (by omega), b2, b3, nI_1]
    by_cases e : q i = t
    · obtain ⟨e1, e2⟩ := (sq_e b1 ht).mpr e
      rw [if_pos e1, if_pos e2]
      exact Or.inl ⟨i, by omega, e, rfl⟩
    · have next := ih (i + 1) fu (by omega) (by omega) (fun j h => by
        by_cases e2 : j = i
        · subst e2; exact e
        · exact hj j (by omega))
      by_cases e1 : nI (q i).1 = nI t.1
      · rw [if_pos e1]
        by_cases e2 : nI (q i).2 = nI t.2
        · exact absurd ((sq_e b1 ht).mp ⟨e1, e2⟩) e
        · rw [if_neg e2]; exact next
      · rw [if_neg e1]; exact next
theorem so_m {F n : Nat} {q : Nat → Nat × Nat} {t : Nat × Nat} {m : xm_S} (hF : 100 < F) (hL : as_M q n m) (hn : n ≤ 16) (ht : sq_b t) :
    (∃ j, j < n ∧ q j = t ∧ mm_stateOf F (nI t.1) (nI t.2) m = some (nI j, m)) ∨ ((∀ j, j < n → q j ≠ t) ∧ ∃ m' : xm_S, mm_stateOf F (nI t.1) (nI t.2) m = some (nI n, m') ∧ as_M (sq_u q n t) (n + 1) m' ∧ xf_r [35, 45, 46] m m' ∧ (∀ j, j ≠ 11 → m'.1 35 j = m.1 35 j)) := by
  have hL0 := hL
  obtain ⟨h1, h2, h3⟩ := hL
  unfold mm_stateOf
  rcases so_m2 (F := F) (kk := fun (m1754 : xm_S) => xg_n (m1754.1 35 11) 17 (xs_m (xw_i m1754 45 (m1754.1 35 11).toNatClampNeg (nI t.1)) fun m1756 => xg_n (m1756.1 35 11) 17 (xs_m (xw_i m1756 46 (m1756.1 35 11).toNatClampNeg (nI t.2)) fun m1759 => xs_m (xw_i m1759 35 11 ((m1759.1 35 11) + (1 : Int32))) fun m1761 => some ((m1761.1 35 11) - (1 : Int32), m1761)))) hL0 ht n 0 F (by omega) (by omega) (fun j hj => by omega) with ⟨j, a1, a2, a3⟩ | ⟨a1, a2⟩
  · exact Or.inl ⟨j, a1, a2, a3⟩
  · refine Or.inr ⟨a1, ?_⟩
    have a2' : mm_stateOf_l2 F (nI t.1) (nI t.2) _ F (0 : Int32) m = _ := a2
    rw [a2', h1]
    have v1 : (xw_i m 45 n (nI t.1)).1 35 11 = nI n := by rw [xi_k (by decide), h1]
    have v2 : (xw_i (xw_i m 45 n (nI t.1)) 46 n (nI t.2)).1 35 11 = nI n := by rw [xi_k (by decide), v1]
    have v3 : (xw_i (xw_i (xw_i m 45 n (nI t.1)) 46 n (nI t.2)) 35 11 (nI (n + 1))).1 35 11 = nI (n + 1) := xi_s
    simp only [xs_m, xg_nI (show n < 17 by omega) (show 17 < 2 ^ 31 by decide), nI_clamp (show n < 2 ^ 31 by omega), v1, v2, nI_1, v3, nI_pred]
    refine ⟨_, rfl, ⟨v3, by omega, fun i hi => ?_⟩, xf_t (xf_t (xf_i rfl) (xf_i rfl)) (xf_i rfl), fun j hj => by rw [xi_j hj, xi_k (by decide), xi_k (by decide)]⟩
    rw [xi_k (show (45 : Nat) ≠ 35 by decide), xi_k (show (45 : Nat) ≠ 46 by decide), xi_k (show (46 : Nat) ≠ 35 by decide)]
    by_cases e : i = n
    · subst e
      rw [sq_n, xi_s, xi_s]
      exact ⟨ht, rfl, rfl⟩
    · rw [sq_o e, xi_j e, xi_j e, xi_k (show (46 : Nat) ≠ 45 by decide)]
      exact h3 i (by omega)
