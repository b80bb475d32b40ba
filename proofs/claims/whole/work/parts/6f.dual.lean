/-! Duals, as a function of the book. -/
def bt_k (k : Nat) : Nat := match k with
  | 0 => 1
  | 1 => 0
  | 2 => 3
  | 3 => 2
  | 4 => 5
  | 5 => 4
  | 6 => 6
  | 7 => 8
  | _ => 7
theorem bt_k_f : ∀ k, k ≤ 8 → bt_k k ≤ 8 ∧ (bt_k k ≤ 1 ↔ k ≤ 1) ∧ ((bt_k k = 2 ∨ bt_k k = 3) ↔ (k = 2 ∨ k = 3)) ∧ (4 ≤ bt_k k ↔ 4 ≤ k) ∧ ((bt_k k = 4 ∨ bt_k k = 5 ∨ bt_k k = 7 ∨ bt_k k = 8) ↔ (k = 4 ∨ k = 5 ∨ k = 7 ∨ k = 8)) ∧ xm_dk k = nI (bt_k k) ∧ mm_dualKind (nI k) = nI (bt_k k) := by decide
def bt_D : Nat → bo_T → Nat → Option Nat × bo_T
  | 0, T, _ => (none, T)
  | n + 1, T, f => if 4 ≤ T.2.1 f then
      (match (bt_D n T (T.2.2.1 f)).1 with
      | none => (none, (bt_D n T (T.2.2.1 f)).2)
      | some a => if T.2.1 f = 4 ∨ T.2.1 f = 5 ∨ T.2.1 f = 7 ∨ T.2.1 f = 8 then
          (match (bt_D n (bt_D n T (T.2.2.1 f)).2 (T.2.2.2 f)).1 with
          | none => (none, (bt_D n (bt_D n T (T.2.2.1 f)).2 (T.2.2.2 f)).2)
          | some b => bt_mk (bt_D n (bt_D n T (T.2.2.1 f)).2 (T.2.2.2 f)).2 (bt_k (T.2.1 f)) a b)
        else bt_mk (bt_D n T (T.2.2.1 f)).2 (bt_k (T.2.1 f)) a 0)
    else bt_mk T (bt_k (T.2.1 f)) (T.2.2.1 f) 0
theorem bt_Gk {T : bo_T} {k a b : Nat} (hk : k ≤ 8) (h1 : k ≤ 1 → a = 0) (h2 : k = 2 ∨ k = 3 → a < 4) (h3 : 4 ≤ k → a < T.1) (h4 : bo_two k → b < T.1) (h5 : ¬ bo_two k → b = 0) : bt_G T (bt_k k) a b := by
  obtain ⟨q1, q2, q3, q4, q5, -⟩ := bt_k_f k hk
  exact ⟨q1, fun q => h1 (q2.mp q), fun q => h2 (q3.mp q), fun q => h3 (q4.mp q), fun q => h4 (q5.mp q), fun q => h5 (fun z => q (q5.mpr z))⟩
theorem bt_D_W : ∀ (n : Nat) (T : bo_T) (f : Nat), bt_W T → f < T.1 → f < n → bt_W (bt_D n T f).2 ∧ bt_X T (bt_D n T f).2 ∧ ∀ d, (bt_D n T f).1 = some d → d < (bt_D n T f).2.1 := by
  intro n
  induction n with
  | zero => intro T f _ _ h; omega
  | succ n ih =>
    intro T f hW hf hn
    obtain ⟨w1, w2, w3, w4, w5, w6, -⟩ := hW.2 f hf
    rw [bt_D]
    by_cases q4 : 4 ≤ T.2.1 f
    · rw [if_pos q4]
      obtain ⟨i1, i2, i3⟩ := ih T (T.2.2.1 f) hW (by have := w4 q4; omega) (by have := w4 q4; omega)
      cases ha : (bt_D n T (T.2.2.1 f)).1 with
      | none => exact ⟨i1, i2, fun d h => by cases h⟩
      | some a =>
        dsimp only
        by_cases q2 : T.2.1 f = 4 ∨ T.2.1 f = 5 ∨ T.2.1 f = 7 ∨ T.2.1 f = 8
        · rw [if_pos q2]
          obtain ⟨j1, j2, j3⟩ := ih (bt_D n T (T.2.2.1 f)).2 (T.2.2.2 f) i1 (Nat.lt_of_lt_of_le (Nat.lt_trans (w5 q2) hf) i2.1) (by have := w5 q2; omega)
          cases hb : (bt_D n (bt_D n T (T.2.2.1 f)).2 (T.2.2.2 f)).1 with
          | none => exact ⟨j1, bt_X_t i2 j2, fun d h => by cases h⟩
          | some b =>
            dsimp only
            have hG : bt_G (bt_D n (bt_D n T (T.2.2.1 f)).2 (T.2.2.2 f)).2 (bt_k (T.2.1 f)) a b := bt_Gk w1 (fun q => by omega) (fun q => by omega) (fun _ => Nat.lt_of_lt_of_le (i3 a ha) j2.1) (fun _ => j3 b hb) (fun q => absurd q2 q)
            obtain ⟨g1, g2⟩ := bt_mk_W j1 hG
            exact ⟨g1, bt_X_t (bt_X_t i2 j2) g2, fun d h => (bt_mk_at h).1⟩
        · rw [if_neg q2]
          have hG : bt_G (bt_D n T (T.2.2.1 f)).2 (bt_k (T.2.1 f)) a 0 := bt_Gk w1 (fun q => by omega) (fun q => by omega) (fun _ => i3 a ha) (fun q => absurd q q2) (fun _ => rfl)
          obtain ⟨g1, g2⟩ := bt_mk_W i1 hG
          exact ⟨g1, bt_X_t i2 g2, fun d h => (bt_mk_at h).1⟩
    · rw [if_neg q4]
      have hG : bt_G T (bt_k (T.2.1 f)) (T.2.2.1 f) 0 := bt_Gk w1 w2 w3 (fun q => absurd q q4) (fun q => absurd q (by unfold bo_two; omega)) (fun _ => rfl)
      obtain ⟨g1, g2⟩ := bt_mk_W hW hG
      exact ⟨g1, g2, fun d h => (bt_mk_at h).1⟩
-- a dual that stands is found again, and nothing is added
theorem bt_D_st : ∀ (n : Nat) (T : bo_T) (f d : Nat), bt_W T → f < T.1 → f < n → (bt_D n T f).1 = some d → ∀ T'' : bo_T, bt_W T'' → bt_X (bt_D n T f).2 T'' → ∀ n' : Nat, f < n' → bt_D n' T'' f = (some d, T'') := by
  intro n
  induction n with
  | zero => intro T f d _ _ h; omega
  | succ n ih =>
    intro T f d hW hf hn hd T'' hW'' hX n' hn'
    obtain ⟨n', rfl⟩ : ∃ q, n' = q + 1 := ⟨n' - 1, by omega⟩
    obtain ⟨w1, w2, w3, w4, w5, w6, -⟩ := hW.2 f hf
    have hX0 : bt_X T T'' := bt_X_t (bt_D_W (n + 1) T f hW hf hn).2.1 hX
    obtain ⟨k1, k2, k3⟩ := hX0.2 f hf
    rw [bt_D, k1, k2, k3]
    rw [bt_D] at hd hX
    by_cases q4 : 4 ≤ T.2.1 f
    · rw [if_pos q4] at hd hX ⊢
      have hA : T.2.2.1 f < f := w4 q4
      obtain ⟨i1, i2, i3⟩ := bt_D_W n T (T.2.2.1 f) hW (by omega) (by omega)
      cases ha : (bt_D n T (T.2.2.1 f)).1 with
      | none => rw [ha] at hd; cases hd
      | some a =>
        rw [ha] at hd hX
        dsimp only at hd hX
        by_cases q2 : T.2.1 f = 4 ∨ T.2.1 f = 5 ∨ T.2.1 f = 7 ∨ T.2.1 f = 8
        · rw [if_pos q2] at hd hX
          have hB : T.2.2.2 f < f := w5 q2
          obtain ⟨j1, j2, j3⟩ := bt_D_W n (bt_D n T (T.2.2.1 f)).2 (T.2.2.2 f) i1 (Nat.lt_of_lt_of_le (by omega) i2.1) (by omega)
          cases hb : (bt_D n (bt_D n T (T.2.2.1 f)).2 (T.2.2.2 f)).1 with
          | none => rw [hb] at hd; cases hd
          | some b =>
            rw [hb] at hd hX
            dsimp only at hd hX
            have hG : bt_G (bt_D n (bt_D n T (T.2.2.1 f)).2 (T.2.2.2 f)).2 (bt_k (T.2.1 f)) a b := bt_Gk w1 (fun q => by omega) (fun q => by omega) (fun _ => Nat.lt_of_lt_of_le (i3 a ha) j2.1) (fun _ => j3 b hb) (fun q => absurd q2 q)
            have g := bt_mk_W j1 hG
            have e1 := ih T (T.2.2.1 f) a hW (by omega) (by omega) ha T'' hW'' (bt_X_t j2 (bt_X_t g.2 hX)) n' (by omega)
            have e2 := ih (bt_D n T (T.2.2.1 f)).2 (T.2.2.2 f) b i1 (Nat.lt_of_lt_of_le (by omega) i2.1) (by omega) hb T'' hW'' (bt_X_t g.2 hX) n' (by omega)
            rw [e1]
            dsimp only
            rw [if_pos q2, e2]
            dsimp only
            obtain ⟨c1, c2, c3, c4⟩ := bt_mk_at hd
            obtain ⟨x1, x2, x3⟩ := hX.2 d c1
            exact bt_mk_old hW'' (Nat.lt_of_lt_of_le c1 hX.1) (x1.trans c2) (x2.trans c3) (x3.trans c4)
        · rw [if_neg q2] at hd hX
          have hG : bt_G (bt_D n T (T.2.2.1 f)).2 (bt_k (T.2.1 f)) a 0 := bt_Gk w1 (fun q => by omega) (fun q => by omega) (fun _ => i3 a ha) (fun q => absurd q q2) (fun _ => rfl)
          have g := bt_mk_W i1 hG
          have e1 := ih T (T.2.2.1 f) a hW (by omega) (by omega) ha T'' hW'' (bt_X_t g.2 hX) n' (by omega)
          rw [e1]
          dsimp only
          rw [if_neg q2]
          obtain ⟨c1, c2, c3, c4⟩ := bt_mk_at hd
          obtain ⟨x1, x2, x3⟩ := hX.2 d c1
          exact bt_mk_old hW'' (Nat.lt_of_lt_of_le c1 hX.1) (x1.trans c2) (x2.trans c3) (x3.trans c4)
    · rw [if_neg q4] at hd hX ⊢
      obtain ⟨c1, c2, c3, c4⟩ := bt_mk_at hd
      obtain ⟨x1, x2, x3⟩ := hX.2 d c1
      exact bt_mk_old hW'' (Nat.lt_of_lt_of_le c1 hX.1) (x1.trans c2) (x2.trans c3) (x3.trans c4)
-- the depth that is given does not matter
theorem bt_D_n : ∀ (n n' : Nat) (T : bo_T) (f : Nat), bt_W T → f < T.1 → f < n → f < n' → bt_D n T f = bt_D n' T f := by
  intro n
  induction n with
  | zero => intro n' T f _ _ h; omega
  | succ n ih =>
    intro n' T f hW hf hn hn'
    obtain ⟨n', rfl⟩ : ∃ q, n' = q + 1 := ⟨n' - 1, by omega⟩
    obtain ⟨w1, w2, w3, w4, w5, w6, -⟩ := hW.2 f hf
    rw [bt_D, bt_D]
    by_cases q4 : 4 ≤ T.2.1 f
    · have hA : T.2.2.1 f < f := w4 q4
      rw [if_pos q4, if_pos q4, ih n' T (T.2.2.1 f) hW (by omega) (by omega) (by omega)]
      obtain ⟨i1, i2, i3⟩ := bt_D_W n' T (T.2.2.1 f) hW (by omega) (by omega)
      by_cases q2 : T.2.1 f = 4 ∨ T.2.1 f = 5 ∨ T.2.1 f = 7 ∨ T.2.1 f = 8
      · have hB : T.2.2.2 f < f := w5 q2
        rw [ih n' (bt_D n' T (T.2.2.1 f)).2 (T.2.2.2 f) i1 (Nat.lt_of_lt_of_le (by omega) i2.1) (by omega) (by omega)]
      · simp only [if_neg q2]
    · rw [if_neg q4, if_neg q4]
