/-! Codes in a long: reading and raising a digit. -/
theorem lX_bv {x : Nat} (h : x < 2 ^ 63) : (lN x).toBitVec.toNat = x := by
  show (BitVec.ofNat 64 x).toNat = x
  rw [BitVec.toNat_ofNat]
  exact Nat.mod_eq_of_lt (by omega)
theorem hw_l_N {x s : Nat} (hx : x < 2 ^ 63) (hs : s < 16) : hw_l (lN x) s = x / 2 ^ (4 * s) % 2 ^ 4 := by
  unfold hw_l
  apply Nat.eq_of_testBit_eq
  intro i
  rw [Nat.testBit_mod_two_pow, Nat.testBit_mod_two_pow, Nat.testBit_div_two_pow]
  by_cases h : i < 4
  · have : ((lN x >>> ((nI (4 * s)).toInt64 &&& 63)).toInt32).toBitVec.toNat.testBit i = x.testBit (4 * s + i) := by
      show ((lN x >>> ((nI (4 * s)).toInt64 &&& 63)).toInt32).toBitVec.getLsbD i = _
      rw [Int64.toBitVec_toInt32, BitVec.getLsbD_signExtend]
      have h1 : i < 64 := by omega
      have h2 : i < 32 := by omega
      simp only [h1, h2, if_true, decide_true, Bool.true_and]
      rw [lb_shr (by omega) (by omega)]
      show (lN x).toBitVec.toNat.testBit (4 * s + i) = _
      rw [lX_bv hx]
    rw [this, Nat.add_comm i (4 * s)]
  · simp [h]
theorem lX_shl {y s : Nat} (hs : s < 16) : lN y <<< ((nI (4 * s)).toInt64 &&& 63) = lN (y * 2 ^ (4 * s)) := by
  apply Int64.toBitVec_inj.mp
  rw [Int64.toBitVec_shiftLeft]
  apply BitVec.eq_of_toNat_eq
  show ((lN y).toBitVec <<< (((nI (4 * s)).toInt64 &&& 63).toBitVec.smod 64).toNat).toNat = _
  rw [lb_s (4 * s) (by omega), BitVec.toNat_shiftLeft, Nat.shiftLeft_eq]
  show (BitVec.ofNat 64 y).toNat * 2 ^ (4 * s) % 2 ^ 64 = (BitVec.ofNat 64 (y * 2 ^ (4 * s))).toNat
  rw [BitVec.toNat_ofNat, BitVec.toNat_ofNat, Nat.mod_mul_mod]
theorem cd_up {b : Nat} {P : Nat → Nat} {v s : Nat} (h : P s ≤ v) : ∀ n, s < n → cd_n b (va_up P s v) n = cd_n b P n + (v - P s) * b ^ s
  | 0, hn => by omega
  | n + 1, hn => by
    rw [cd_n, cd_n]
    by_cases e : s = n
    · subst e
      rw [cd_ext (Q := P) (fun t ht => by simp [va_up, Nat.ne_of_lt ht])]
      have : va_up P s v s = v := by simp [va_up]
      rw [this]
      have h2 : v * b ^ s = P s * b ^ s + (v - P s) * b ^ s := by rw [← Nat.add_mul]; congr 1; omega
      omega
    · rw [cd_up h n (by omega)]
      have : va_up P s v n = P n := by
        have : ¬ n = s := fun z => e z.symm
        simp [va_up, this]
      rw [this]
      omega
def up_x (P : Nat → Nat) (s v : Nat) : Nat → Nat := va_up P s (if P s ≤ v then v else P s)
theorem gm_c {P : Nat → Nat} {s : Nat} (hP : ∀ t, P t < 8) (hs : s < 16) : gm_counterOf (lN (cd_n 16 P 16)) (nI s) = nI (P s) - 1 := by
  have h16 : ∀ t, P t < 16 := fun t => by have := hP t; omega
  have hlt : cd_n 16 P 16 < 2 ^ 63 := by
    have e : cd_n 16 P 16 = cd_n 16 P 15 + P 15 * 16 ^ 15 := rfl
    have h1 := cd_lt h16 15
    have h2 := hP 15
    have h3 : P 15 * 16 ^ 15 ≤ 7 * 16 ^ 15 := Nat.mul_le_mul_right _ (by omega)
    rw [e]
    have : (7 : Nat) * 16 ^ 15 + 16 ^ 15 = 2 ^ 63 := by decide
    omega
  unfold gm_counterOf
  rw [show (4 : Int32) * nI s = nI (4 * s) from pk_mul 4 s, hw_l_m, hw_l_N hlt hs, Nat.pow_mul]
  rw [show (2 ^ 4 : Nat) = 16 from rfl, cd_dig h16 16 s hs]
theorem cd_63 {P : Nat → Nat} (hP : ∀ t, P t < 8) : cd_n 16 P 16 < 2 ^ 63 := by
  have h16 : ∀ t, P t < 16 := fun t => by have := hP t; omega
  have e : cd_n 16 P 16 = cd_n 16 P 15 + P 15 * 16 ^ 15 := rfl
  have h1 := cd_lt h16 15
  have h2 := hP 15
  have h3 : P 15 * 16 ^ 15 ≤ 7 * 16 ^ 15 := Nat.mul_le_mul_right _ (by omega)
  rw [e]
  have : (7 : Nat) * 16 ^ 15 + 16 ^ 15 = 2 ^ 63 := by decide
  omega
-- a counter, one less than its digit, against another
theorem ct_lt {a b : Nat} (ha : a < 8) (hb : b < 8) : (nI a - 1 < nI b) ↔ a < b + 1 := by
  have : ∀ a, a < 8 → ∀ b, b < 8 → ((nI a - 1 < nI b) ↔ a < b + 1) := by decide
  exact this a ha b hb
theorem ct_sub {a b : Nat} (ha : a < 8) (hb : b < 8) (h : a ≤ b + 1) : nI b - (nI a - 1) = nI (b + 1 - a) := by
  have : ∀ a, a < 8 → ∀ b, b < 8 → a ≤ b + 1 → nI b - (nI a - 1) = nI (b + 1 - a) := by decide
  exact this a ha b hb h
theorem gm_r {P : Nat → Nat} {s k : Nat} (hP : ∀ t, P t < 8) (hs : s < 16) (hk : k < 7) : gm_raised (lN (cd_n 16 P 16)) (nI s) (nI k) = lN (cd_n 16 (up_x P s (k + 1)) 16) := by
  unfold gm_raised up_x
  rw [gm_c hP hs]
  by_cases h : P s < k + 1
  · rw [if_pos ((ct_lt (hP s) (by omega)).mpr h), if_pos (by omega), cd_up (by omega) 16 hs, ct_sub (hP s) (by omega) (by omega), nI_l (by have := hP s; omega), show (4 : Int32) * nI s = nI (4 * s) from pk_mul 4 s, lX_shl hs, lN_add, Nat.pow_mul]
  · rw [if_neg (fun q => h ((ct_lt (hP s) (by omega)).mp q))]
    by_cases h2 : P s ≤ k + 1
    · have e : k + 1 = P s := by omega
      rw [if_pos h2, e]
      congr 1
      exact cd_ext (fun t _ => by
        unfold va_up
        by_cases z : t = s
        · rw [if_pos z, z]
        · rw [if_neg z])
    · rw [if_neg h2]
      congr 1
      exact cd_ext (fun t _ => by
        unfold va_up
        by_cases z : t = s
        · rw [if_pos z, z]
        · rw [if_neg z])
