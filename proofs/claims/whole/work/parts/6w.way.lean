/-! What a way says: bits. -/
def wx_n (x : Int64) : Nat := x.toBitVec.toNat % 2 ^ 28
def wx_o (x : Int64) (u : Nat) : Bool := x.toBitVec.getLsbD (28 + u)
theorem wx_n_lt (x : Int64) : wx_n x < 2 ^ 28 := Nat.mod_lt _ (by decide)
theorem wx_n_t (x : Int64) (j : Nat) : (wx_n x).testBit j = (decide (j < 28) && x.toBitVec.getLsbD j) := by
  unfold wx_n
  rw [Nat.testBit_mod_two_pow]
  rfl
set_option maxRecDepth 20000 in
theorem lb_s : ∀ a, a < 64 → (((nI a).toInt64 &&& 63).toBitVec.smod 64).toNat = a := by decide
theorem lb_shr {x : Int64} {a i : Nat} (ha : a < 64) (hi : a + i < 64) : (x >>> ((nI a).toInt64 &&& 63)).toBitVec.getLsbD i = x.toBitVec.getLsbD (a + i) := by
  rw [Int64.toBitVec_shiftRight, BitVec.sshiftRight', lb_s a ha, BitVec.getLsbD_sshiftRight]
  have h1 : ¬ 64 ≤ i := by omega
  simp [h1, hi]
theorem lb_n (x : Int64) : (x &&& (268435455 : Int64)).toInt32 = nI (wx_n x) := by
  rw [Int64.toInt32_and]
  have e : x.toInt32 &&& (268435455 : Int64).toInt32 = nI (x.toInt32.toBitVec.toNat % 2 ^ 28) := pk_and x.toInt32 28 (by decide)
  rw [e]
  unfold wx_n
  congr 1
  apply Nat.eq_of_testBit_eq
  intro j
  rw [Nat.testBit_mod_two_pow, Nat.testBit_mod_two_pow]
  by_cases h : j < 28
  · have : x.toInt32.toBitVec.toNat.testBit j = x.toBitVec.toNat.testBit j := by
      show x.toInt32.toBitVec.getLsbD j = x.toBitVec.getLsbD j
      rw [Int64.toBitVec_toInt32, BitVec.getLsbD_signExtend]
      have h1 : j < 64 := by omega
      have h2 : j < 32 := by omega
      simp [h1, h2]
    rw [this]
  · simp [h]
theorem ib_t {y : Int32} {u : Nat} (hu : u < 32) : ((y >>> (nI u &&& 31)) &&& (1 : Int32) = 0) ↔ y.toBitVec.getLsbD u = false := by
  have e : (y >>> (nI u &&& 31)) &&& (1 : Int32) = nI ((y >>> (nI u &&& 31)).toBitVec.toNat % 2 ^ 1) := pk_and _ 1 (by decide)
  rw [e]
  have b : (y >>> (nI u &&& 31)).toBitVec.getLsbD 0 = y.toBitVec.getLsbD u := by
    rw [Int32.toBitVec_shiftRight, BitVec.sshiftRight', nb_sl u hu, BitVec.getLsbD_sshiftRight]
    simp [hu]
  have c : (y >>> (nI u &&& 31)).toBitVec.getLsbD 0 = decide ((y >>> (nI u &&& 31)).toBitVec.toNat % 2 = 1) := by
    show Nat.testBit _ 0 = _
    rw [Nat.testBit_zero]
  rw [← b, c]
  have hm := Nat.mod_lt (y >>> (nI u &&& 31)).toBitVec.toNat (show 0 < 2 by decide)
  have h2 : (y >>> (nI u &&& 31)).toBitVec.toNat % 2 = 0 ∨ (y >>> (nI u &&& 31)).toBitVec.toNat % 2 = 1 := by omega
  rw [Nat.pow_one]
  rcases h2 with h | h <;> rw [h] <;> decide
theorem wx_c {x : Int64} {u : Nat} (hu : u < 28) : ((wy_putOffSet x >>> (nI u &&& 31)) &&& (1 : Int32) = 0) ↔ wx_o x u = false := by
  rw [ib_t (by omega)]
  unfold wy_putOffSet wx_o
  have : ((x >>> ((28 : Int32).toInt64 &&& 63)).toInt32).toBitVec.getLsbD u = x.toBitVec.getLsbD (28 + u) := by
    rw [Int64.toBitVec_toInt32, BitVec.getLsbD_signExtend]
    have h1 : u < 64 := by omega
    have h2 : u < 32 := by omega
    simp only [h1, h2, if_true, decide_true, Bool.true_and]
    exact lb_shr (a := 28) (by decide) (by omega)
  rw [this]
theorem wx_m {x : Int64} {u : Nat} (hu : u < 28) : (lg_cmp (((x >>> ((28 : Int32).toInt64 &&& 63)) >>> ((nI u).toInt64 &&& 63)) &&& (1 : Int64)) (0 : Int64) = 0) ↔ wx_o x u = false := by
  rw [lg_cmp_eq]
  have b : ((x >>> ((28 : Int32).toInt64 &&& 63)) >>> ((nI u).toInt64 &&& 63)).toBitVec.getLsbD 0 = wx_o x u := by
    rw [lb_shr (by omega) (by omega)]
    unfold wx_o
    rw [Nat.add_zero]
    exact lb_shr (a := 28) (by decide) (by omega)
  rw [← b]
  generalize (x >>> ((28 : Int32).toInt64 &&& 63)) >>> ((nI u).toInt64 &&& 63) = z
  constructor
  · intro h
    have h2 := congrArg (fun t : Int64 => t.toBitVec.getLsbD 0) h
    simp only [Int64.toBitVec_and, BitVec.getLsbD_and] at h2
    have h3 : (1 : Int64).toBitVec.getLsbD 0 = true := by decide
    have h4 : (0 : Int64).toBitVec.getLsbD 0 = false := by decide
    rw [h3, h4, Bool.and_true] at h2
    exact h2
  · intro h
    apply Int64.toBitVec_inj.mp
    rw [Int64.toBitVec_and]
    apply BitVec.eq_of_getLsbD_eq
    intro i hi
    rw [BitVec.getLsbD_and]
    have h0 : ∀ i, i < 64 → (0 : Int64).toBitVec.getLsbD i = false := by decide
    rw [h0 i hi]
    by_cases e : i = 0
    · subst e; rw [h]; rfl
    · have h1 : ∀ i, i < 64 → i ≠ 0 → (1 : Int64).toBitVec.getLsbD i = false := by decide
      rw [h1 i hi e, Bool.and_false]
theorem bl_t {a i : Nat} (ha : a < 64) (hi : i < 64) : (bl_n a).toBitVec.getLsbD i = decide (i = a) := by
  unfold bl_n
  rw [Int64.toBitVec_shiftLeft]
  have e : ((1 : Int64).toBitVec <<< (((nI a).toInt64 &&& 63).toBitVec.smod 64)).getLsbD i = ((1 : Int64).toBitVec <<< (((nI a).toInt64 &&& 63).toBitVec.smod 64).toNat).getLsbD i := rfl
  rw [e, lb_s a ha, BitVec.getLsbD_shiftLeft]
  by_cases h : i < a
  · have : ¬ i = a := by omega
    simp [h, this]
  · by_cases e : i = a
    · subst e
      have h3 : (1 : Int64).toBitVec.getLsbD 0 = true := by decide
      simp [hi, h3]
    · have h1 : ∀ i, i < 64 → i ≠ 0 → (1 : Int64).toBitVec.getLsbD i = false := by decide
      rw [h1 (i - a) (by omega) (by omega)]
      simp [e]
theorem or_t {x y : Int64} {i : Nat} : (x ||| y).toBitVec.getLsbD i = (x.toBitVec.getLsbD i || y.toBitVec.getLsbD i) := by
  rw [Int64.toBitVec_or, BitVec.getLsbD_or]
