/-! Bits of small numbers. -/
theorem nb_or (a b : Nat) : nI a ||| nI b = nI (a ||| b) := by
  apply Int32.toBitVec_inj.mp
  rw [Int32.toBitVec_or]
  show BitVec.ofNat 32 a ||| BitVec.ofNat 32 b = BitVec.ofNat 32 (a ||| b)
  apply BitVec.eq_of_getLsbD_eq
  intro i hi
  simp [BitVec.getLsbD_ofNat, hi, Nat.testBit_or]
theorem nb_and (a b : Nat) : nI a &&& nI b = nI (a &&& b) := by
  apply Int32.toBitVec_inj.mp
  rw [Int32.toBitVec_and]
  show BitVec.ofNat 32 a &&& BitVec.ofNat 32 b = BitVec.ofNat 32 (a &&& b)
  apply BitVec.eq_of_getLsbD_eq
  intro i hi
  simp [BitVec.getLsbD_ofNat, hi, Nat.testBit_and]
theorem nb_sl : ∀ n, n < 32 → ((nI n &&& 31).toBitVec.smod 32).toNat = n := by decide +kernel
theorem nb_one {p : Nat} (hp : p < 31) : (1 : Int32) <<< (nI p &&& 31) = nI (2 ^ p) := by
  have : ∀ p, p < 31 → (1 : Int32) <<< (nI p &&& 31) = nI (2 ^ p) := by decide +kernel
  exact this p hp
theorem nb_shr {x p : Nat} (hx : x < 2 ^ 31) (hp : p < 32) : nI x >>> (nI p &&& 31) = nI (x / 2 ^ p) := pk_shrN hx _ p (nb_sl p hp)
theorem nb_bit {x p : Nat} (hx : x < 2 ^ 31) (hp : p < 32) : (nI x >>> (nI p &&& 31)) &&& (1 : Int32) = nI (x / 2 ^ p % 2) := by
  rw [nb_shr hx hp]
  have h := pk_andN (n := x / 2 ^ p) (Nat.lt_of_le_of_lt (Nat.div_le_self _ _) (by omega)) (m := 1) 1 (by decide)
  simpa using h
theorem nb_tb (x p : Nat) : x / 2 ^ p % 2 = if x.testBit p then 1 else 0 := by
  rw [Nat.testBit_eq_decide_div_mod_eq]
  have := Nat.mod_lt (x / 2 ^ p) (show 0 < 2 by decide)
  by_cases h : x / 2 ^ p % 2 = 1
  · simp [h]
  · simp [h]; omega
theorem nb_t {x p : Nat} (hx : x < 2 ^ 31) (hp : p < 32) : ((nI x >>> (nI p &&& 31)) &&& (1 : Int32) = 0) ↔ x.testBit p = false := by
  rw [nb_bit hx hp, nb_tb]
  cases x.testBit p <;> decide
theorem nb_t1 {x p : Nat} (hx : x < 2 ^ 31) (hp : p < 32) : ((nI x >>> (nI p &&& 31)) &&& (1 : Int32) = 1) ↔ x.testBit p = true := by
  rw [nb_bit hx hp, nb_tb]
  cases x.testBit p <;> decide
-- well made books
def bo_W (c : Nat) (K A B : Nat → Nat) : Prop := c ≤ 28 ∧ ∀ j, j < c → K j ≤ 8 ∧ (K j ≤ 1 → A j = 0) ∧ (K j = 2 ∨ K j = 3 → A j < 4) ∧ (4 ≤ K j → A j < j) ∧ (bo_two (K j) → B j < j) ∧ (¬ bo_two (K j) → B j = 0) ∧ ∀ i, i < j → ¬ (K i = K j ∧ A i = A j ∧ B i = B j)
theorem bo_W.S {c : Nat} {K A B : Nat → Nat} (h : bo_W c K A B) : bo_S c K A B := by
  refine ⟨h.1, fun j hj => ?_⟩
  obtain ⟨h1, h2, h3, h4, h5, h6, -⟩ := h.2 j hj
  have hc := h.1
  refine ⟨h1, ?_, ?_⟩
  · by_cases q : K j ≤ 1
    · rw [h2 q]; decide
    · by_cases q2 : 4 ≤ K j
      · have := h4 q2; omega
      · have := h3 (by omega); omega
  · by_cases q : bo_two (K j)
    · have := h5 q; omega
    · rw [h6 q]; decide
-- the sets of parts, as the class keeps them
def bo_P (c : Nat) (K A B PS : Nat → Nat) (m : xm_S) : Prop := ∀ j, j < c → m.1 5 j = nI (PS j) ∧ PS j < 2 ^ (j + 1) ∧ ∀ p, (PS j).testBit p = true ↔ (p = j ∨ (4 ≤ K j ∧ (PS (A j)).testBit p = true) ∨ (bo_two (K j) ∧ (PS (B j)).testBit p = true))
theorem bo_f_none {K A B : Nat → Nat} {k a b : Nat} : ∀ {n i : Nat}, bo_f K A B k a b i n = none → ∀ j, i ≤ j → j < i + n → ¬ (K j = k ∧ A j = a ∧ B j = b)
  | 0, i, _, j, h1, h2 => by omega
  | n + 1, i, h, j, h1, h2 => by
    rw [bo_f] at h
    by_cases q : K i = k ∧ A i = a ∧ B i = b
    · rw [if_pos q] at h; cases h
    · rw [if_neg q] at h
      by_cases e : j = i
      · subst e; exact q
      · exact bo_f_none h j (by omega) (by omega)
theorem bo_f_some {K A B : Nat → Nat} {k a b f : Nat} : ∀ {n i : Nat}, bo_f K A B k a b i n = some f → i ≤ f ∧ f < i + n ∧ K f = k ∧ A f = a ∧ B f = b
  | 0, i, h => by cases h
  | n + 1, i, h => by
    rw [bo_f] at h
    by_cases q : K i = k ∧ A i = a ∧ B i = b
    · rw [if_pos q] at h; cases h; exact ⟨Nat.le_refl _, by omega, q⟩
    · rw [if_neg q] at h
      have := bo_f_some h
      exact ⟨by omega, by omega, this.2.2⟩
theorem bo_W_new {c : Nat} {K A B : Nat → Nat} {k a b : Nat} (h : bo_W c K A B) (hc : c < 28) (h1 : k ≤ 8) (h2 : k ≤ 1 → a = 0) (h3 : k = 2 ∨ k = 3 → a < 4) (h4 : 4 ≤ k → a < c) (h5 : bo_two k → b < c) (h6 : ¬ bo_two k → b = 0) (hf : bo_f K A B k a b 0 c = none) : bo_W (c + 1) (va_up K c k) (va_up A c a) (va_up B c b) := by
  refine ⟨by omega, fun j hj => ?_⟩
  by_cases e : j = c
  · subst e
    have hn := bo_f_none hf
    simp only [va_up, if_true]
    refine ⟨h1, h2, h3, h4, h5, h6, fun i hi q => ?_⟩
    have hi2 : i ≠ j := by omega
    simp only [hi2, if_false] at q
    exact hn i (by omega) (by omega) q
  · obtain ⟨g1, g2, g3, g4, g5, g6, g7⟩ := h.2 j (by omega)
    simp only [va_up, e, if_false]
    refine ⟨g1, g2, g3, g4, g5, g6, fun i hi q => ?_⟩
    have hi2 : i ≠ c := by omega
    simp only [hi2, if_false] at q
    exact g7 i hi q
theorem bo_P_new {c : Nat} {K A B PS : Nat → Nat} {m m' : xm_S} {k a b : Nat} (h : bo_W c K A B) (hP : bo_P c K A B PS m) (hc : c < 28) (h4 : 4 ≤ k → a < c) (h5 : bo_two k → b < c) (e1 : m'.1 5 c = bo_pv m k c a b) (e2 : ∀ j, j ≠ c → m'.1 5 j = m.1 5 j) :
    bo_P (c + 1) (va_up K c k) (va_up A c a) (va_up B c b) (va_up PS c (2 ^ c ||| ((if 4 ≤ k then PS a else 0) ||| (if k = 4 ∨ k = 5 ∨ k = 7 ∨ k = 8 then PS b else 0)))) m' := by
  intro j hj
  by_cases e : j = c
  · subst e
    have ha : 4 ≤ k → a ≠ j := fun q => Nat.ne_of_lt (h4 q)
    have hb : bo_two k → b ≠ j := fun q => Nat.ne_of_lt (h5 q)
    simp only [va_up, if_true]
    have pa : 4 ≤ k → m.1 5 a = nI (PS a) ∧ PS a < 2 ^ (j + 1) := fun q => ⟨(hP a (h4 q)).1, Nat.lt_of_lt_of_le (hP a (h4 q)).2.1 (Nat.pow_le_pow_right (by decide) (by have := h4 q; omega))⟩
    have pb : bo_two k → m.1 5 b = nI (PS b) ∧ PS b < 2 ^ (j + 1) := fun q => ⟨(hP b (h5 q)).1, Nat.lt_of_lt_of_le (hP b (h5 q)).2.1 (Nat.pow_le_pow_right (by decide) (by have := h5 q; omega))⟩
    refine ⟨?_, ?_, ?_⟩
    · rw [e1]
      unfold bo_pv
      dsimp only
      rw [nb_one (by omega)]
      by_cases q4 : 4 ≤ k
      · by_cases q2 : k = 4 ∨ k = 5 ∨ k = 7 ∨ k = 8
        · rw [if_pos q4, if_pos q2, if_pos q4, if_pos q2, (pa q4).1, (pb q2).1, nb_or, nb_or, Nat.or_assoc]
        · rw [if_pos q4, if_neg q2, if_pos q4, if_neg q2, (pa q4).1, nb_or, Nat.or_zero]
      · have q2 : ¬ (k = 4 ∨ k = 5 ∨ k = 7 ∨ k = 8) := by omega
        rw [if_neg q4, if_neg q2, if_neg q4, if_neg q2, Nat.or_zero, Nat.or_zero]
    · refine Nat.or_lt_two_pow (Nat.pow_lt_pow_right (by decide) (by omega)) (Nat.or_lt_two_pow ?_ ?_)
      · split
        · rename_i q; exact (pa q).2
        · exact Nat.two_pow_pos _
      · split
        · rename_i q; exact (pb q).2
        · exact Nat.two_pow_pos _
    · intro p
      rw [Nat.testBit_or, Nat.testBit_or, Nat.testBit_two_pow, show decide (j = p) = decide (p = j) from decide_eq_decide.mpr ⟨Eq.symm, Eq.symm⟩]
      by_cases q4 : 4 ≤ k
      · by_cases q2 : k = 4 ∨ k = 5 ∨ k = 7 ∨ k = 8
        · have q2' : bo_two k := q2
          simp [q4, q2, q2', ha q4, hb q2']
        · have q2' : ¬ bo_two k := q2
          simp [q4, q2, q2', ha q4]
      · have q2 : ¬ (k = 4 ∨ k = 5 ∨ k = 7 ∨ k = 8) := by omega
        have q2' : ¬ bo_two k := q2
        simp [q4, q2, q2']
  · obtain ⟨g1, g2, g3⟩ := hP j (by omega)
    obtain ⟨w1, w2, w3, w4, w5, w6, w7⟩ := h.2 j (by omega)
    simp only [va_up, e, if_false]
    refine ⟨by rw [e2 j e]; exact g1, g2, fun p => ?_⟩
    rw [g3 p]
    constructor
    · rintro (q | ⟨q1, q2⟩ | ⟨q1, q2⟩)
      · exact Or.inl q
      · exact Or.inr (Or.inl ⟨q1, by rw [if_neg (by have := w4 q1; omega)]; exact q2⟩)
      · exact Or.inr (Or.inr ⟨q1, by rw [if_neg (by have := w5 q1; omega)]; exact q2⟩)
    · rintro (q | ⟨q1, q2⟩ | ⟨q1, q2⟩)
      · exact Or.inl q
      · exact Or.inr (Or.inl ⟨q1, by rw [if_neg (by have := w4 q1; omega)] at q2; exact q2⟩)
      · exact Or.inr (Or.inr ⟨q1, by rw [if_neg (by have := w5 q1; omega)] at q2; exact q2⟩)
