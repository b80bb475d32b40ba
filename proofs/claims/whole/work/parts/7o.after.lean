/-! The reference: the position after a letter. -/
theorem lX_sh {y e : Nat} (he : e < 64) : lN y <<< ((nI e).toInt64 &&& 63) = lN (y * 2 ^ e) := by
  apply Int64.toBitVec_inj.mp
  rw [Int64.toBitVec_shiftLeft]
  apply BitVec.eq_of_toNat_eq
  show ((lN y).toBitVec <<< (((nI e).toInt64 &&& 63).toBitVec.smod 64).toNat).toNat = _
  rw [lb_s e he, BitVec.toNat_shiftLeft, Nat.shiftLeft_eq]
  show (BitVec.ofNat 64 y).toNat * 2 ^ e % 2 ^ 64 = (BitVec.ofNat 64 (y * 2 ^ e)).toNat
  rw [BitVec.toNat_ofNat, BitVec.toNat_ofNat, Nat.mod_mul_mod]
theorem lX_3 {x e : Nat} (hx : x < 2 ^ 63) (he : e < 60) : ((lN x >>> ((nI e).toInt64 &&& 63)) &&& (7 : Int64)).toInt32 = nI (x / 2 ^ e % 2 ^ 3) := by
  rw [Int64.toInt32_and]
  have h := pk_and ((lN x >>> ((nI e).toInt64 &&& 63)).toInt32) (m := 7) 3 (by decide)
  refine Eq.trans h ?_
  congr 1
  apply Nat.eq_of_testBit_eq
  intro i
  rw [Nat.testBit_mod_two_pow, Nat.testBit_mod_two_pow, Nat.testBit_div_two_pow]
  by_cases h : i < 3
  · have : ((lN x >>> ((nI e).toInt64 &&& 63)).toInt32).toBitVec.toNat.testBit i = x.testBit (e + i) := by
      show ((lN x >>> ((nI e).toInt64 &&& 63)).toInt32).toBitVec.getLsbD i = _
      rw [Int64.toBitVec_toInt32, BitVec.getLsbD_signExtend]
      have h1 : i < 64 := by omega
      have h2 : i < 32 := by omega
      simp only [h1, h2, if_true, decide_true, Bool.true_and]
      rw [lb_shr (by omega) (by omega)]
      show (lN x).toBitVec.toNat.testBit (e + i) = _
      rw [lX_bv hx]
    rw [this, Nat.add_comm i e]
  · simp [h]
theorem lX_or {x w e : Nat} (hx : x < 2 ^ e) : lN x ||| lN (w * 2 ^ e) = lN (x + w * 2 ^ e) := by
  have h1 : x + w * 2 ^ e = x ||| w * 2 ^ e := by
    rw [Nat.add_comm, Nat.mul_comm, Nat.two_pow_add_eq_or_of_lt hx, Nat.or_comm]
  rw [h1]
  apply Int64.toBitVec_inj.mp
  rw [Int64.toBitVec_or]
  show BitVec.ofNat 64 x ||| BitVec.ofNat 64 (w * 2 ^ e) = BitVec.ofNat 64 (x ||| w * 2 ^ e)
  apply BitVec.eq_of_getLsbD_eq
  intro i hi
  simp [BitVec.getLsbD_ofNat, hi, Nat.testBit_or]
theorem cd_48 {P : Nat → Nat} {n : Nat} (hP : ∀ t, P t < 8) (hn : n ≤ 16) : cd_n 8 P n < 2 ^ 63 :=
  Nat.lt_of_lt_of_le (cd_lt hP n) (Nat.le_trans (Nat.pow_le_pow_right (by decide) hn) (by decide))
theorem mc_c {P : Nat → Nat} {n s : Nat} (hP : ∀ t, P t < 8) (hn : n ≤ 16) (hs : s < n) : mm_counter (lN (cd_n 8 P n)) (nI s) = nI (P s) - 1 := by
  unfold mm_counter
  rw [show (3 : Int32) * nI s = nI (3 * s) from pk_mul 3 s, lX_3 (cd_48 hP hn) (by omega), Nat.pow_mul, show (2 ^ 3 : Nat) = 8 from rfl, cd_dig hP n s hs]
theorem ct_le {a b : Nat} (ha : a < 8) (hb : b < 8) : (nI a - 1 ≤ nI b - 1) ↔ a ≤ b := by
  have : ∀ a, a < 8 → ∀ b, b < 8 → ((nI a - 1 ≤ nI b - 1) ↔ a ≤ b) := by decide
  exact this a ha b hb
theorem ct_le2 {a b : Nat} (ha : a < 8) (hb : b < 8) : (nI a - 1 ≤ nI b) ↔ a ≤ b + 1 := by
  have : ∀ a, a < 8 → ∀ b, b < 8 → ((nI a - 1 ≤ nI b) ↔ a ≤ b + 1) := by decide
  exact this a ha b hb
theorem ct_neg {a : Nat} (ha : a < 8) : (nI a - 1 < 0) ↔ a = 0 := by
  have : ∀ a, a < 8 → ((nI a - 1 < 0) ↔ a = 0) := by decide
  exact this a ha
theorem ct_s {a : Nat} (ha : a < 8) : nI a - 1 + 1 = nI a := by
  have : ∀ a, a < 8 → nI a - 1 + 1 = nI a := by decide
  exact this a ha
theorem ct_b {a : Nat} (ha : a < 7) : nI a - 1 + nI 1 = nI (a + 1) - 1 := by
  have : ∀ a, a < 7 → nI a - 1 + nI 1 = nI (a + 1) - 1 := by decide
  exact this a ha
theorem ct_b0 {a : Nat} (ha : a < 7) : nI a - 1 + nI 0 = nI a - 1 := by
  have : ∀ a, a < 7 → nI a - 1 + nI 0 = nI a - 1 := by decide
  exact this a ha
theorem ga_v5 {A G : Nat → Nat → Nat} {P : Nat → Nat} {l t n : Nat} (hP : ∀ t, P t ≤ 4) : ga_v A G P l t n ≤ 5 := ga_v_le (fun s _ => by
  unfold ga_o
  have := hP s
  split
  · split <;> omega
  · omega)
theorem ma_21 {F n l t : Nat} {A G : Nat → Nat → Nat} {P : Nat → Nat} {vb : Int32} {vc : Int64} {m : xm_S} {kk : Int32 → xm_S → Option (Int64 × xm_S)} (hn : n ≤ 16) (hl : l < 16) (ht : t < n) (hP : ∀ t, P t ≤ 4) (h35 : m.1 35 11 = nI n)
    (hA : ∀ s, s < n → m.1 47 (16 * s + l) = nI (A s l) ∧ A s l < 2 ^ 16) (hG : ∀ s, s < n → m.1 48 (16 * s + l) = nI (G s l) ∧ G s l < 2 ^ 16) :
    ∀ (r i fu : Nat), i + r = n → r < fu → mm_after_l21 F (lN (cd_n 8 P n)) (nI l) vb vc (nI t) kk fu (nI (ga_v A G P l t i) - 1) (nI i) m = kk (nI (ga_v A G P l t n) - 1) m := by
  have hP8 : ∀ t, P t < 8 := fun t => by have := hP t; omega
  intro r
  induction r with
  | zero =>
    intro i fu hi hfu
    obtain ⟨fu, rfl⟩ : ∃ g, fu = g + 1 := ⟨fu - 1, by omega⟩
    obtain rfl : i = n := by omega
    rw [mm_after_l21, h35, if_pos (nI_le (Nat.le_refl _) (by omega))]
  | succ r ih =>
    intro i fu hi hfu
    obtain ⟨fu, rfl⟩ : ∃ g, fu = g + 1 := ⟨fu - 1, by omega⟩
    have hin : i < n := by omega
    have hv := ga_v5 (A := A) (G := G) (l := l) (t := t) (n := i) hP
    have nxt : ∀ o, o < 8 → o = ga_o A G P l t i → (if nI o - 1 ≤ nI (ga_v A G P l t i) - 1 then mm_after_l21 F (lN (cd_n 8 P n)) (nI l) vb vc (nI t) kk fu (nI (ga_v A G P l t i) - 1) (nI i + (1 : Int32)) m else mm_after_l21 F (lN (cd_n 8 P n)) (nI l) vb vc (nI t) kk fu (nI o - 1) (nI i + (1 : Int32)) m) = kk (nI (ga_v A G P l t n) - 1) m := fun o ho e => by
      have h1 := ih (i + 1) fu (by omega) (by omega)
      rw [nI_1]
      by_cases c : o ≤ ga_v A G P l t i
      · have : ga_v A G P l t (i + 1) = ga_v A G P l t i := by rw [ga_v, ← e]; split <;> omega
        rw [if_pos ((ct_le ho (by omega)).mpr c), ← h1, this]
      · have : ga_v A G P l t (i + 1) = o := by rw [ga_v, ← e]; split <;> omega
        rw [if_neg (fun z => c ((ct_le ho (by omega)).mp z)), ← h1, this]
    have h272 : 16 * i + l < 272 := by omega
    rw [mm_after_l21, h35, if_neg (nI_ge (by omega) (by omega)), mc_c hP8 hn hin, ix_m]
    simp only [xj_j]
    rw [show ((-1 : Int32)) = nI 0 - 1 by decide]
    by_cases hp : P i = 0
    · rw [if_pos ((ct_neg (hP8 i)).mpr hp), if_pos trivial]
      exact nxt 0 (by decide) (by unfold ga_o; rw [if_neg (by omega)])
    · rw [if_neg (fun z => hp ((ct_neg (hP8 i)).mp z))]
      simp only [xg_nI h272 (show 272 < 2 ^ 31 by decide)]
      rw [nI_clamp (by omega), (hA i hin).1, (hG i hin).1]
      have ha31 : A i l < 2 ^ 31 := Nat.lt_of_lt_of_le (hA i hin).2 (by decide)
      have hg31 : G i l < 2 ^ 31 := Nat.lt_of_lt_of_le (hG i hin).2 (by decide)
      by_cases x : (A i l).testBit t = true
      · rw [if_pos ((nb_t1 ha31 (by omega)).mpr x), if_neg (show ¬ (1 : Int32) = 0 by decide), nb_bit hg31 (by omega), nb_tb]
        have hpi := hP i
        by_cases y : (G i l).testBit t = true
        · rw [if_pos y, ct_b (by omega)]
          exact nxt (P i + 1) (by omega) (by unfold ga_o; rw [if_pos ⟨by omega, x⟩, if_pos y])
        · rw [if_neg y, ct_b0 (by omega)]
          exact nxt (P i) (by omega) (by unfold ga_o; rw [if_pos ⟨by omega, x⟩, if_neg y, Nat.add_zero])
      · rw [if_neg (fun z => x ((nb_t1 ha31 (by omega)).mp z)), if_pos trivial]
        exact nxt 0 (by decide) (by unfold ga_o; rw [if_neg (fun z => x z.2)])
theorem ma_6 {F n b l : Nat} {A G : Nat → Nat → Nat} {P : Nat → Nat} {m : xm_S} {kk : Int64 → xm_S → Option (Int64 × xm_S)} (hF : 100 < F) (hn : n ≤ 16) (hb : b ≤ 3) (hl : l < 16) (hP : ∀ t, P t ≤ 4) (h35 : m.1 35 11 = nI n)
    (hA : ∀ s, s < n → m.1 47 (16 * s + l) = nI (A s l) ∧ A s l < 2 ^ 16) (hG : ∀ s, s < n → m.1 48 (16 * s + l) = nI (G s l) ∧ G s l < 2 ^ 16) :
    ∀ (r t fu : Nat), t + r = n → r < fu → (∀ u, u < t → ga_v A G P l u n ≤ b + 1) →
      ((∃ u, u < n ∧ b + 1 < ga_v A G P l u n) ∧ mm_after_l6 F (lN (cd_n 8 P n)) (nI l) (nI b) kk fu (lN (cd_n 8 (fun t => ga_v A G P l t n) t)) (nI t) m = some (-1, m)) ∨ ((∀ u, u < n → ga_v A G P l u n ≤ b + 1) ∧ mm_after_l6 F (lN (cd_n 8 P n)) (nI l) (nI b) kk fu (lN (cd_n 8 (fun t => ga_v A G P l t n) t)) (nI t) m = kk (lN (cd_n 8 (fun t => ga_v A G P l t n) n)) m) := by
  intro r
  induction r with
  | zero =>
    intro t fu hi hfu hL
    obtain ⟨fu, rfl⟩ : ∃ g, fu = g + 1 := ⟨fu - 1, by omega⟩
    obtain rfl : t = n := by omega
    refine Or.inr ⟨hL, ?_⟩
    rw [mm_after_l6, h35, if_pos (nI_le (Nat.le_refl _) (by omega))]
  | succ r ih =>
    intro t fu hi hfu hL
    obtain ⟨fu, rfl⟩ : ∃ g, fu = g + 1 := ⟨fu - 1, by omega⟩
    have ht : t < n := by omega
    have hv := fun u => ga_v5 (A := A) (G := G) (l := l) (t := u) (n := n) hP
    have h21 := fun kk' => ma_21 (F := F) (vb := nI b) (vc := lN (cd_n 8 (fun t => ga_v A G P l t n) t)) (kk := kk') hn hl ht hP h35 hA hG n 0 F (by omega) (by omega)
    have e0 : nI (ga_v A G P l t 0) - 1 = (-1 : Int32) := by show nI 0 - 1 = -1; decide
    have h21' : ∀ kk' : Int32 → xm_S → Option (Int64 × xm_S), mm_after_l21 F (lN (cd_n 8 P n)) (nI l) (nI b) (lN (cd_n 8 (fun t => ga_v A G P l t n) t)) (nI t) kk' F (-1 : Int32) (0 : Int32) m = kk' (nI (ga_v A G P l t n) - 1) m := fun kk' => by
      have h := h21 kk'
      rw [e0] at h
      exact h
    rw [mm_after_l6, h35, if_neg (nI_ge (by omega) (by omega)), h21']
    have hvt := hv t
    by_cases c : ga_v A G P l t n ≤ b + 1
    · rw [if_pos ((ct_le2 (by omega) (by omega)).mpr c), ct_s (by omega), nI_l (by omega), show (3 : Int32) * nI t = nI (3 * t) from pk_mul 3 t, lX_sh (by omega), lX_or (Nat.lt_of_lt_of_eq (cd_lt (fun u => by have := hv u; show ga_v A G P l u n < 8; omega) t) (by rw [Nat.pow_mul])), nI_1]
      have e : cd_n 8 (fun t => ga_v A G P l t n) t + ga_v A G P l t n * 2 ^ (3 * t) = cd_n 8 (fun t => ga_v A G P l t n) (t + 1) := by
        rw [cd_n, Nat.pow_mul]
      rw [e]
      exact ih (t + 1) fu (by omega) (by omega) (fun u hu => by
        by_cases z : u = t
        · rw [z]; exact c
        · exact hL u (by omega))
    · rw [if_neg (fun z => c ((ct_le2 (by omega) (by omega)).mp z))]
      exact Or.inl ⟨⟨t, ht, by omega⟩, rfl⟩
theorem ga_m {F n b l : Nat} {A G : Nat → Nat → Nat} {P : Nat → Nat} {m : xm_S} (hF : 100 < F) (hn : n ≤ 16) (hb : b ≤ 3) (hl : l < 16) (hP : ∀ t, P t ≤ 4) (h35 : m.1 35 11 = nI n)
    (hA : ∀ s, s < n → m.1 47 (16 * s + l) = nI (A s l) ∧ A s l < 2 ^ 16) (hG : ∀ s, s < n → m.1 48 (16 * s + l) = nI (G s l) ∧ G s l < 2 ^ 16) :
    ((∃ u, u < n ∧ b + 1 < ga_v A G P l u n) ∧ mm_after F (lN (cd_n 8 P n)) (nI l) (nI b) m = some (-1, m)) ∨ ((∀ u, u < n → ga_v A G P l u n ≤ b + 1) ∧ mm_after F (lN (cd_n 8 P n)) (nI l) (nI b) m = some (lN (cd_n 8 (fun t => ga_v A G P l t n) n), m)) :=
  ma_6 (F := F) (kk := fun x m => some (x, m)) hF hn hb hl hP h35 hA hG n 0 F (by omega) (by omega) (fun s hs => by omega)
