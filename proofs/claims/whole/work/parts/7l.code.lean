/-! Codes in a long: reading and raising a digit. -/
theorem lN_bv {x : Nat} (h : x < 2 ^ 63) : (lN x).toBitVec.toNat = x := by
  show (BitVec.ofNat 64 x).toNat = x
  rw [BitVec.toNat_ofNat]
  exact Nat.mod_eq_of_lt (by omega)
theorem hw_l_N {x s : Nat} (hx : x < 2 ^ 63) (hs : s < 16) : hw_l (lN x) s = x / 2 ^ (4 * s) % 2 ^ 4 := by
  unfold hw_l
  apply Nat.eq_of_testBit_eq
  intro i
  rw [Nat.testBit_mod_two_pow, Nat.testBit_mod_two_pow, Nat.testBit_div_two_pow]
  by_cases h : i < 4
  · have : ((lN x >>> ((nI (4 * s)).toInt64 &&& 63)).toInt32).toBitVec.toNat.testBit i = x.testBit (4 * s + i) := by
      show ((lN x >>> ((nI (4 * s)).toInt64 &&& 63)).toInt32).toBitVec.getLsbD i = _
      rw [Int64.toBitVec_toInt32, BitVec.getLsbD_signExtend]
      have h1 : i < 64 := by omega
      have h2 : i < 32 := by omega
      simp only [h1, h2, if_true, decide_true, Bool.true_and]
      rw [lb_shr (by omega) (by omega)]
      show (lN x).toBitVec.toNat.testBit (4 * s + i) = _
      rw [lN_bv hx]
    rw [this, Nat.add_comm i (4 * s)]
  · simp [h]
