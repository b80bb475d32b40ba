/-! Words: places as bits of a number. -/
def hw_l (x : Int64) (i : Nat) : Nat := ((x >>> ((nI (4 * i)).toInt64 &&& 63)).toInt32).toBitVec.toNat % 2 ^ 4
def hw_L (x y : Int64) (n p : Nat) : Nat := if p < n then hw_l x p else hw_l y (p - n)
def hw_b (x y : Int64) (n p a : Nat) : Nat := hw_L x y n p / 2 ^ a % 2
def hw_a (n w p : Nat) : Nat := p / 2 ||| (p / 2 ^ n % 2) * 2 ^ (w - 1)
def hw_w (b : Nat → Nat) : Nat → Nat
  | 0 => 0
  | p + 1 => hw_w b p ||| b p * 2 ^ p
def hw_u (n w f g : Nat) : Nat → Nat → Nat
  | 0, x => x
  | r + 1, x => hw_u n w f g r (g ||| (f &&& hw_a n w x))
def hw_r (n w f g : Nat) : Nat → Nat → Nat
  | 0, x => x
  | r + 1, x => hw_r n w f g r (g &&& (f ||| hw_a n w x))
theorem hw_l_c (x : Int64) (i : Nat) : ((x >>> ((nI (4 * i)).toInt64 &&& 63)).toInt32) &&& (15 : Int32) = nI (hw_l x i) := pk_and _ 4 (by decide)
theorem hw_l_m (x : Int64) (i : Nat) : ((x >>> ((nI (4 * i)).toInt64 &&& 63)) &&& (15 : Int64)).toInt32 = nI (hw_l x i) := by
  rw [Int64.toInt32_and]
  exact hw_l_c x i
theorem hw_l_lt (x : Int64) (i : Nat) : hw_l x i < 16 := Nat.mod_lt _ (by decide)
theorem hw_L_lt (x y : Int64) (n p : Nat) : hw_L x y n p < 16 := by
  unfold hw_L
  split
  · exact hw_l_lt _ _
  · exact hw_l_lt _ _
theorem hw_b_lt (x y : Int64) (n p a : Nat) : hw_b x y n p a < 2 := Nat.mod_lt _ (by decide)
theorem hw_a_lt {n w p : Nat} (hw : 0 < w) (hp : p < 2 ^ w) : hw_a n w p < 2 ^ w := by
  obtain ⟨v, rfl⟩ : ∃ v, w = v + 1 := ⟨w - 1, by omega⟩
  unfold hw_a
  refine Nat.or_lt_two_pow ?_ ?_
  · rw [Nat.pow_succ] at hp ⊢
    omega
  · have := Nat.mod_lt (p / 2 ^ n) (show 0 < 2 by decide)
    have h2 : (p / 2 ^ n % 2) * 2 ^ (v + 1 - 1) ≤ 1 * 2 ^ v := Nat.mul_le_mul_right _ (by omega)
    have h3 := Nat.two_pow_pos v
    rw [Nat.pow_succ]
    omega
theorem hw_w_lt {b : Nat → Nat} (hb : ∀ p, b p < 2) : ∀ w, hw_w b w < 2 ^ w
  | 0 => by show 0 < 2 ^ 0; decide
  | w + 1 => by
    rw [hw_w]
    have h3 := Nat.two_pow_pos w
    refine Nat.or_lt_two_pow (Nat.lt_of_lt_of_le (hw_w_lt hb w) (Nat.pow_le_pow_right (by decide) (by omega))) ?_
    have h2 : b w * 2 ^ w ≤ 1 * 2 ^ w := Nat.mul_le_mul_right _ (by have := hb w; omega)
    rw [Nat.pow_succ]
    omega
theorem hw_w_t {b : Nat → Nat} (hb : ∀ p, b p < 2) : ∀ (w i : Nat), (hw_w b w).testBit i = (decide (i < w) && decide (b i = 1))
  | 0, i => by simp [hw_w]
  | w + 1, i => by
    rw [hw_w, Nat.testBit_or, hw_w_t hb w i, Nat.mul_comm, Nat.testBit_two_pow_mul]
    have hb1 := hb w
    by_cases h : i < w
    · have h2 : ¬ w ≤ i := by omega
      have h3 : i < w + 1 := by omega
      simp [h, h2, h3]
    · by_cases e : i = w
      · subst e
        have : b i = 0 ∨ b i = 1 := by omega
        rcases this with q | q <;> simp [q]
      · have h3 : ¬ i < w + 1 := by omega
        have h4 : w ≤ i := by omega
        have h5 : (b w).testBit (i - w) = false := by
          apply Nat.testBit_lt_two_pow
          have : 2 ^ 1 ≤ 2 ^ (i - w) := Nat.pow_le_pow_right (by decide) (by omega)
          omega
        simp [h, h3, h4, h5]
theorem hw_u_lt {n w f g : Nat} (hw : 0 < w) (hf : f < 2 ^ w) (hg : g < 2 ^ w) : ∀ (r x : Nat), x < 2 ^ w → hw_u n w f g r x < 2 ^ w
  | 0, x, hx => hx
  | r + 1, x, hx => hw_u_lt hw hf hg r _ (Nat.or_lt_two_pow hg (Nat.lt_of_le_of_lt Nat.and_le_left hf))
theorem hw_r_lt {n w f g : Nat} (hw : 0 < w) (hf : f < 2 ^ w) (hg : g < 2 ^ w) : ∀ (r x : Nat), x < 2 ^ w → hw_r n w f g r x < 2 ^ w
  | 0, x, hx => hx
  | r + 1, x, hx => hw_r_lt hw hf hg r _ (Nat.lt_of_le_of_lt Nat.and_le_left hg)
-- one round from nothing, from all
theorem hw_u_0 {n w f g r : Nat} : hw_u n w f g (r + 1) 0 = hw_u n w f g r g := by
  rw [hw_u]
  have : hw_a n w 0 = 0 := by unfold hw_a; simp
  rw [this, Nat.and_zero, Nat.or_zero]
theorem hw_a_all {n w : Nat} (hn : n < w) : hw_a n w (2 ^ w - 1) = 2 ^ w - 1 := by
  obtain ⟨v, rfl⟩ : ∃ v, w = v + 1 := ⟨w - 1, by omega⟩
  unfold hw_a
  apply Nat.eq_of_testBit_eq
  intro i
  have hb : (2 ^ (v + 1) - 1) / 2 ^ n % 2 = 1 := by
    rw [nb_tb, Nat.testBit_two_pow_sub_one]
    simp [hn]
  rw [hb, Nat.testBit_or, Nat.one_mul, Nat.testBit_two_pow, Nat.testBit_two_pow_sub_one, show (2 ^ (v + 1) - 1) / 2 = 2 ^ v - 1 by rw [Nat.pow_succ]; have := Nat.two_pow_pos v; omega, Nat.testBit_two_pow_sub_one]
  by_cases h : i < v
  · have : i < v + 1 := by omega
    simp [h, this]
  · by_cases e : i = v
    · subst e; simp
    · have h1 : ¬ i < v + 1 := by omega
      have h2 : ¬ v = i := fun q => e q.symm
      simp [h, h1, h2]
theorem hw_r_0 {n w f g r : Nat} (hn : n < w) (hf : f < 2 ^ w) (hg : g < 2 ^ w) : hw_r n w f g (r + 1) (2 ^ w - 1) = hw_r n w f g r g := by
  rw [hw_r, hw_a_all hn]
  have : g &&& (f ||| (2 ^ w - 1)) = g := by
    apply Nat.eq_of_testBit_eq
    intro i
    rw [Nat.testBit_and, Nat.testBit_or, Nat.testBit_two_pow_sub_one]
    by_cases h : i < w
    · simp [h]
    · have : g.testBit i = false := Nat.testBit_lt_two_pow (Nat.lt_of_lt_of_le hg (Nat.pow_le_pow_right (by decide) (by omega)))
      simp [this]
  rw [this]
-- the programs' own reckoning
theorem nb_shl {x p : Nat} (hp : p < 32) (h : x * 2 ^ p < 2 ^ 32) : nI x <<< (nI p &&& 31) = nI (x * 2 ^ p) := pk_shlN _ p (nb_sl p hp) h
theorem nb_m1 {w : Nat} (hw : w < 31) : ((1 : Int32) <<< (nI w &&& 31)) - (1 : Int32) = nI (2 ^ w - 1) := by
  rw [nb_one hw]
  exact pk_sub (b := 1) (Nat.two_pow_pos w)
theorem hw_ac {n w p : Nat} {m : xm_S} (h3 : m.1 7 3 = nI w) (h4 : m.1 7 4 = nI n) (hw : 0 < w) (hw2 : w ≤ 16) (hn : n < w) (hp : p < 2 ^ w) : wd_placesAhead (nI p) m = nI (hw_a n w p) := by
  have hp16 : p < 2 ^ 16 := Nat.lt_of_lt_of_le hp (Nat.pow_le_pow_right (by decide) hw2)
  unfold wd_placesAhead hw_a
  rw [h3, h4, nb_bit (by omega) (by omega), show nI w - (1 : Int32) = nI (w - 1) from pk_sub (b := 1) hw]
  have hm := Nat.mod_lt (p / 2 ^ n) (show 0 < 2 by decide)
  have hpw : 2 ^ (w - 1) ≤ 2 ^ 15 := Nat.pow_le_pow_right (by decide) (by omega)
  rw [nb_shl (by omega) (Nat.lt_of_le_of_lt (Nat.mul_le_mul (show p / 2 ^ n % 2 ≤ 1 by omega) hpw) (by decide)), show nI p >>> ((1 : Int32) &&& 31) = nI (p / 2 ^ 1) from nb_shr (p := 1) (by omega) (by decide), nb_or]
theorem hw_am {n w p : Nat} (hw : 0 < w) (hw2 : w ≤ 16) (hn : n < w) (hp : p < 2 ^ w) : mm_ahead (nI p) (nI n) (nI w) = nI (hw_a n w p) := by
  have hp16 : p < 2 ^ 16 := Nat.lt_of_lt_of_le hp (Nat.pow_le_pow_right (by decide) hw2)
  obtain ⟨v, rfl⟩ : ∃ v, w = v + 1 := ⟨w - 1, by omega⟩
  unfold mm_ahead hw_a
  have hm := Nat.mod_lt (p / 2 ^ n) (show 0 < 2 by decide)
  have hpw : 2 ^ v ≤ 2 ^ 15 := Nat.pow_le_pow_right (by decide) (by omega)
  rw [nb_bit (by omega) (by omega), nI_pred, nb_m1 (by omega), nb_shl (by omega) (Nat.lt_of_le_of_lt (Nat.mul_le_mul (show p / 2 ^ n % 2 ≤ 1 by omega) hpw) (by decide)), show nI p >>> ((1 : Int32) &&& 31) = nI (p / 2 ^ 1) from nb_shr (p := 1) (by omega) (by decide), nb_and, nb_or, Nat.and_two_pow_sub_one_eq_mod, Nat.mod_eq_of_lt (by rw [Nat.pow_succ] at hp; omega)]
  rfl
