/-! Steps from one state by one letter, as sets of numbers. -/
def sq_i (q : Nat → Nat × Nat) (n : Nat) : Prop := ∀ i j, i < n → j < n → q i = q j → i = j
def sp_W (U : Nat × (Nat → Nat)) (q : Nat → Nat × Nat) (n : Nat) (s : Nat × Nat) (W : Int64 → Prop) (A G : Nat) : Prop := A < 2 ^ n ∧ G < 2 ^ n ∧ (∀ t, t < n → ((A.testBit t = true ↔ ∃ x, W x ∧ au_t U s x = q t) ∧ (G.testBit t = true ↔ ∃ x, W x ∧ au_t U s x = q t ∧ au_j U x s.2 = U.1))) ∧ ∀ x, W x → ∃ t, t < n ∧ q t = au_t U s x
theorem sq_i_u {q : Nat → Nat × Nat} {n : Nat} {t : Nat × Nat} (h : sq_i q n) (hn : ∀ j, j < n → q j ≠ t) : sq_i (sq_u q n t) (n + 1) := by
  intro i j hi hj e
  by_cases e1 : i = n
  · by_cases e2 : j = n
    · omega
    · rw [e1, sq_n, sq_o e2] at e
      exact absurd e.symm (hn j (by omega))
  · by_cases e2 : j = n
    · rw [e2, sq_n, sq_o e1] at e
      exact absurd e (hn i (by omega))
    · rw [sq_o e1, sq_o e2] at e
      exact h i j (by omega) (by omega) e
theorem sp_0 {U : Nat × (Nat → Nat)} {q : Nat → Nat × Nat} {n : Nat} {s : Nat × Nat} : sp_W U q n s (fun _ => False) 0 0 :=
  ⟨Nat.two_pow_pos n, Nat.two_pow_pos n, fun t _ => ⟨⟨fun h => (by rw [Nat.zero_testBit] at h; cases h), fun ⟨x, h, _⟩ => h.elim⟩, ⟨fun h => (by rw [Nat.zero_testBit] at h; cases h), fun ⟨x, h, _⟩ => h.elim⟩⟩, fun x h => h.elim⟩
theorem sp_iff {U : Nat × (Nat → Nat)} {q : Nat → Nat × Nat} {n A G : Nat} {s : Nat × Nat} {W V : Int64 → Prop} (h : ∀ x, W x ↔ V x) (k : sp_W U q n s W A G) : sp_W U q n s V A G := by
  have e : W = V := funext fun x => propext (h x)
  rw [← e]; exact k
theorem sp_grow {U : Nat × (Nat → Nat)} {q : Nat → Nat × Nat} {n A G : Nat} {s t : Nat × Nat} {W : Int64 → Prop} (h : sp_W U q n s W A G) (hn : ∀ j, j < n → q j ≠ t) : sp_W U (sq_u q n t) (n + 1) s W A G := by
  obtain ⟨h1, h2, h3, h4⟩ := h
  have no : ∀ x, W x → au_t U s x ≠ t := fun x hx e => by
    obtain ⟨j, j1, j2⟩ := h4 x hx
    exact hn j j1 (by rw [j2, e])
  refine ⟨by rw [Nat.pow_succ]; omega, by rw [Nat.pow_succ]; omega, fun i hi => ?_, fun x hx => ?_⟩
  · by_cases e : i = n
    · subst e
      rw [sq_n, Nat.testBit_lt_two_pow h1, Nat.testBit_lt_two_pow h2]
      exact ⟨⟨fun h => (by cases h), fun ⟨x, a, b⟩ => absurd b (no x a)⟩, ⟨fun h => (by cases h), fun ⟨x, a, b, _⟩ => absurd b (no x a)⟩⟩
    · rw [sq_o e]
      exact h3 i (by omega)
  · obtain ⟨j, j1, j2⟩ := h4 x hx
    exact ⟨j, by omega, by rw [sq_o (by omega), j2]⟩
theorem sp_add {U : Nat × (Nat → Nat)} {q : Nat → Nat × Nat} {n A G j : Nat} {s : Nat × Nat} {W : Int64 → Prop} {x : Int64} (hq : sq_i q n) (h : sp_W U q n s W A G) (hj : j < n) (e : q j = au_t U s x) : sp_W U q n s (fun y => W y ∨ y = x) (A ||| 2 ^ j) (if au_j U x s.2 = U.1 then G ||| 2 ^ j else G) := by
  obtain ⟨h1, h2, h3, h4⟩ := h
  have hp : 2 ^ j < 2 ^ n := Nat.pow_lt_pow_right (by decide) hj
  have same : ∀ t, t < n → (au_t U s x = q t ↔ t = j) := fun t ht => ⟨fun z => hq t j ht hj (by rw [← z, e]), fun z => by rw [z, e]⟩
  refine ⟨Nat.or_lt_two_pow h1 hp, ?_, fun t ht => ⟨?_, ?_⟩, fun y hy => ?_⟩
  · split
    · exact Nat.or_lt_two_pow h2 hp
    · exact h2
  · rw [tb_o, (h3 t ht).1]
    constructor
    · rintro (⟨y, a, b⟩ | z)
      · exact ⟨y, Or.inl a, b⟩
      · exact ⟨x, Or.inr rfl, (same t ht).mpr z⟩
    · rintro ⟨y, a | a, b⟩
      · exact Or.inl ⟨y, a, b⟩
      · rw [a] at b; exact Or.inr ((same t ht).mp b)
  · by_cases g : au_j U x s.2 = U.1
    · rw [if_pos g, tb_o, (h3 t ht).2]
      constructor
      · rintro (⟨y, a, b⟩ | z)
        · exact ⟨y, Or.inl a, b⟩
        · exact ⟨x, Or.inr rfl, (same t ht).mpr z, g⟩
      · rintro ⟨y, a | a, b, c⟩
        · exact Or.inl ⟨y, a, b, c⟩
        · rw [a] at b; exact Or.inr ((same t ht).mp b)
    · rw [if_neg g, (h3 t ht).2]
      constructor
      · rintro ⟨y, a, b⟩
        exact ⟨y, Or.inl a, b⟩
      · rintro ⟨y, a | a, b, c⟩
        · exact ⟨y, a, b, c⟩
        · rw [a] at c; exact absurd c g
  · rcases hy with a | a
    · exact h4 y a
    · exact ⟨j, hj, by rw [a, e]⟩
-- at most 16 states
def af_N (T : bo_T) (U : Nat × (Nat → Nat)) (f : Nat) : Prop := ∃ (n : Nat) (q : Nat → Nat × Nat), n ≤ 16 ∧ ∀ s, au_r T U f s → ∃ i, i < n ∧ q i = s
-- the automaton has room
def af_K (T : bo_T) (U : Nat × (Nat → Nat)) (f : Nat) : Prop := af_N T U f ∧ ∀ s, au_r T U f s → ∀ l, l < 16 → jo_w T l s.1 28
theorem sq_le {n b : Nat} {q r : Nat → Nat × Nat} (h : sq_i q n) (hs : ∀ i, i < n → ∃ j, j < b ∧ r j = q i) : n ≤ b := by
  have hc : ∀ i, ∃ j, i < n → j < b ∧ r j = q i := fun i => by
    by_cases hi : i < n
    · obtain ⟨j, h1, h2⟩ := hs i hi
      exact ⟨j, fun _ => ⟨h1, h2⟩⟩
    · exact ⟨0, fun z => absurd z hi⟩
  have hf : ∃ f : Nat → Nat, ∀ i, i < n → f i < b ∧ r (f i) = q i := ⟨fun i => Classical.choose (hc i), fun i => Classical.choose_spec (hc i)⟩
  obtain ⟨f, hf⟩ := hf
  exact ph_n b n f (fun i hi => (hf i hi).1) (fun i j hi hj z => h i j hi hj (by rw [← (hf i hi).2, ← (hf j hj).2, z]))
theorem af_17 {T : bo_T} {U : Nat × (Nat → Nat)} {f n : Nat} {q : Nat → Nat × Nat} (h : sq_i q n) (hr : ∀ i, i < n → au_r T U f (q i)) (hn : 16 < n) : ¬ af_N T U f := fun ⟨b, r, hb, hs⟩ => by
  have := sq_le h (fun i hi => hs (q i) (hr i hi))
  omega
-- a closed list holds all
theorem af_all {T : bo_T} {U : Nat × (Nat → Nat)} {f n : Nat} {q : Nat → Nat × Nat} (h0 : 0 < n) (hz : q 0 = (2 ^ f, 0)) (hc : ∀ i, i < n → ∀ l, l < 16 → ∀ x, jp_w T l (q i).1 28 x → ∃ t, t < n ∧ q t = au_t U (q i) x) : ∀ s, au_r T U f s → ∃ i, i < n ∧ q i = s := by
  intro s hs
  refine hs (fun s => ∃ i, i < n ∧ q i = s) ⟨0, h0, hz⟩ ?_
  rintro s l x ⟨i, hi, e⟩ hl hx
  rw [← e] at hx ⊢
  exact hc i hi l hl x hx
