/-! Duals, the reference's side: a stack of formulas. -/
def md_I (T : bo_T) (m : xm_S) : Prop := ∀ j, j < 28 → m.1 39 j = -1 ∨ (j < T.1 ∧ ∃ d, d < 28 ∧ m.1 39 j = nI d ∧ bt_D 28 T j = (some d, T))
theorem md_I_X {T T' : bo_T} {m m' : xm_S} (hW : bt_W T) (hW' : bt_W T') (hX : bt_X T T') (h6 : ∀ j, m'.1 39 j = m.1 39 j) (h : md_I T m) : md_I T' m' := by
  intro j hj
  rw [h6 j]
  rcases h j hj with q | ⟨q1, d, q2, q3, q4⟩
  · exact Or.inl q
  · refine Or.inr ⟨Nat.lt_of_lt_of_le q1 hX.1, d, q2, q3, ?_⟩
    have hc := hW.1
    exact bt_D_st 28 T j d hW q1 (by omega) (by rw [q4]) T' hW' (by rw [q4]; exact hX) 28 (by omega)
section MSTEP
variable {F q k : Nat} {f : Int32} {kk : xm_S → Option (Int32 × xm_S)} {T : bo_T} {m : xm_S}
-- the top is done: it is taken away
theorem mm_pop {d : Nat} (hq : q < 59) (hk : k < T.1) (hW : bt_W T) (hM : bt_M T m) (ht : m.1 40 q = nI k) (hd : d < 28) (hm : m.1 39 k = nI d) (hA : 4 ≤ T.2.1 k → m.1 39 (T.2.2.1 k) = -1 ∨ ∃ a, a < 28 ∧ m.1 39 (T.2.2.1 k) = nI a) (hB : bo_two (T.2.1 k) → m.1 39 (T.2.2.2 k) = -1 ∨ ∃ a, a < 28 ∧ m.1 39 (T.2.2.2 k) = nI a) (fu : Nat) : mm_dual_l40 F f kk (fu + 1) (nI (q + 1)) m = mm_dual_l40 F f kk fu (nI q) m := by
  have hc := hW.1
  obtain ⟨w1, w2, w3, w4, w5, w6, -⟩ := hW.2 k hk
  obtain ⟨c1, c2, c3⟩ := hM.2 k hk
  obtain ⟨s1, s2, s3⟩ := (bo_W.S hW).2 k hk
  have n0 : ¬ nI (q + 1) ≤ 0 := nI_nle (by omega) (by omega)
  have l3 : (nI (T.2.1 k) ≤ 3) ↔ T.2.1 k ≤ 3 := fm_l (n := 3) w1 (by decide)
  have nd : ∀ a, a < 28 → ¬ nI a < 0 := fun a ha => nI_pos (by omega)
  have pd : ∀ a, a < 28 → (0 : Int32) ≤ nI a := fun a ha => nI_pos' (by omega)
  have np : ¬ (0 : Int32) ≤ -1 := by decide
  have hgq : ∀ {β : Type} {o : Option β}, xg_n (nI q) 60 o = o := fun {β o} => xg_nI (by omega) (by decide)
  have hgk : ∀ {β : Type} {o : Option β}, xg_n (nI k) 28 o = o := fun {β o} => xg_nI (by omega) (by decide)
  have hga : ∀ {β : Type} {o : Option β}, xg_n (nI (T.2.2.1 k)) 28 o = o := fun {β o} => xg_nI (by omega) (by decide)
  have hgb : ∀ {β : Type} {o : Option β}, xg_n (nI (T.2.2.2 k)) 28 o = o := fun {β o} => xg_nI (by omega) (by decide)
  rw [mm_dual_l40, if_neg n0]
  simp only [nI_pred, hgq, nI_clamp (show q < 2 ^ 31 by omega), ht, hgk, nI_clamp (show k < 2 ^ 31 by omega), c1, c2, c3, xj_j, l3, fm_mtw w1, hga, hgb, nI_clamp (show T.2.2.1 k < 2 ^ 31 by omega), nI_clamp (show T.2.2.2 k < 2 ^ 31 by omega), hm, nd d hd, if_false, pk_m1]
  by_cases q4 : T.2.1 k ≤ 3
  · have q2 : ¬ (T.2.1 k = 4 ∨ T.2.1 k = 5 ∨ T.2.1 k = 7 ∨ T.2.1 k = 8) := by omega
    simp [q4, q2]
  · by_cases q2 : T.2.1 k = 4 ∨ T.2.1 k = 5 ∨ T.2.1 k = 7 ∨ T.2.1 k = 8
    · rcases hA (by omega) with ea | ⟨a, ha, ea⟩ <;> rcases hB q2 with eb | ⟨b, hb, eb⟩ <;> simp [q4, q2, ea, eb, np] <;> (try rw [if_pos (pd a ha)]) <;> (try rw [if_pos (pd b hb)])
    · rcases hA (by omega) with ea | ⟨a, ha, ea⟩ <;> simp [q4, q2, ea, np] <;> (try rw [if_pos (pd a ha)])
-- the first part is wanting: it is laid on top
theorem mm_pushA (hq : q < 58) (hk : k < T.1) (hW : bt_W T) (hM : bt_M T m) (ht : m.1 40 q = nI k) (hm : m.1 39 k = -1) (h4 : 4 ≤ T.2.1 k) (hA : m.1 39 (T.2.2.1 k) = -1) (hB : bo_two (T.2.1 k) → m.1 39 (T.2.2.2 k) = -1 ∨ ∃ a, a < 28 ∧ m.1 39 (T.2.2.2 k) = nI a) (fu : Nat) : mm_dual_l40 F f kk (fu + 1) (nI (q + 1)) m = mm_dual_l40 F f kk fu (nI (q + 1 + 1)) (xw_i m 40 (q + 1) (nI (T.2.2.1 k))) := by
  have hc := hW.1
  obtain ⟨w1, w2, w3, w4, w5, w6, -⟩ := hW.2 k hk
  obtain ⟨c1, c2, c3⟩ := hM.2 k hk
  obtain ⟨s1, s2, s3⟩ := (bo_W.S hW).2 k hk
  have n0 : ¬ nI (q + 1) ≤ 0 := nI_nle (by omega) (by omega)
  have l3 : (nI (T.2.1 k) ≤ 3) ↔ T.2.1 k ≤ 3 := fm_l (n := 3) w1 (by decide)
  have nd : ∀ a, a < 28 → ¬ nI a < 0 := fun a ha => nI_pos (by omega)
  have pd : ∀ a, a < 28 → (0 : Int32) ≤ nI a := fun a ha => nI_pos' (by omega)
  have np : ¬ (0 : Int32) ≤ -1 := by decide
  have nm : (-1 : Int32) < 0 := by decide
  have hgq : ∀ {β : Type} {o : Option β}, xg_n (nI q) 60 o = o := fun {β o} => xg_nI (by omega) (by decide)
  have hgd : ∀ {β : Type} {o : Option β}, xg_n (nI (q + 1)) 60 o = o := fun {β o} => xg_nI (by omega) (by decide)
  have hgk : ∀ {β : Type} {o : Option β}, xg_n (nI k) 28 o = o := fun {β o} => xg_nI (by omega) (by decide)
  have hga : ∀ {β : Type} {o : Option β}, xg_n (nI (T.2.2.1 k)) 28 o = o := fun {β o} => xg_nI (by omega) (by decide)
  have hgb : ∀ {β : Type} {o : Option β}, xg_n (nI (T.2.2.2 k)) 28 o = o := fun {β o} => xg_nI (by omega) (by decide)
  rw [mm_dual_l40, if_neg n0]
  simp only [nI_pred, hgq, hgd, nI_clamp (show q < 2 ^ 31 by omega), nI_clamp (show q + 1 < 2 ^ 31 by omega), ht, hgk, nI_clamp (show k < 2 ^ 31 by omega), c1, c2, c3, xj_j, xs_m, l3, fm_mtw w1, hga, hgb, nI_clamp (show T.2.2.1 k < 2 ^ 31 by omega), nI_clamp (show T.2.2.2 k < 2 ^ 31 by omega), hm, nm, if_true, nI_1, (bt_k_f _ w1).2.2.2.2.2.2]
  have q4 : ¬ T.2.1 k ≤ 3 := by omega
  by_cases q2 : T.2.1 k = 4 ∨ T.2.1 k = 5 ∨ T.2.1 k = 7 ∨ T.2.1 k = 8
  · rcases hB q2 with eb | ⟨b, hb, eb⟩
    · simp [q4, q2, hA, eb, np]
    · simp [q4, q2, hA, eb, np, pd b hb]
  · simp [q4, q2, hA, np]
-- the first part is there, the second is wanting
theorem mm_pushB {a : Nat} (hq : q < 58) (hk : k < T.1) (hW : bt_W T) (hM : bt_M T m) (ht : m.1 40 q = nI k) (hm : m.1 39 k = -1) (h2 : bo_two (T.2.1 k)) (ha : a < 28) (hA : m.1 39 (T.2.2.1 k) = nI a) (hB : m.1 39 (T.2.2.2 k) = -1) (fu : Nat) : mm_dual_l40 F f kk (fu + 1) (nI (q + 1)) m = mm_dual_l40 F f kk fu (nI (q + 1 + 1)) (xw_i m 40 (q + 1) (nI (T.2.2.2 k))) := by
  have hc := hW.1
  obtain ⟨w1, w2, w3, w4, w5, w6, -⟩ := hW.2 k hk
  obtain ⟨c1, c2, c3⟩ := hM.2 k hk
  obtain ⟨s1, s2, s3⟩ := (bo_W.S hW).2 k hk
  have n0 : ¬ nI (q + 1) ≤ 0 := nI_nle (by omega) (by omega)
  have l3 : (nI (T.2.1 k) ≤ 3) ↔ T.2.1 k ≤ 3 := fm_l (n := 3) w1 (by decide)
  have nd : ∀ a, a < 28 → ¬ nI a < 0 := fun a ha => nI_pos (by omega)
  have pd : ∀ a, a < 28 → (0 : Int32) ≤ nI a := fun a ha => nI_pos' (by omega)
  have np : ¬ (0 : Int32) ≤ -1 := by decide
  have nm : (-1 : Int32) < 0 := by decide
  have hgq : ∀ {β : Type} {o : Option β}, xg_n (nI q) 60 o = o := fun {β o} => xg_nI (by omega) (by decide)
  have hgd : ∀ {β : Type} {o : Option β}, xg_n (nI (q + 1)) 60 o = o := fun {β o} => xg_nI (by omega) (by decide)
  have hgk : ∀ {β : Type} {o : Option β}, xg_n (nI k) 28 o = o := fun {β o} => xg_nI (by omega) (by decide)
  have hga : ∀ {β : Type} {o : Option β}, xg_n (nI (T.2.2.1 k)) 28 o = o := fun {β o} => xg_nI (by omega) (by decide)
  have hgb : ∀ {β : Type} {o : Option β}, xg_n (nI (T.2.2.2 k)) 28 o = o := fun {β o} => xg_nI (by omega) (by decide)
  rw [mm_dual_l40, if_neg n0]
  simp only [nI_pred, hgq, hgd, nI_clamp (show q < 2 ^ 31 by omega), nI_clamp (show q + 1 < 2 ^ 31 by omega), ht, hgk, nI_clamp (show k < 2 ^ 31 by omega), c1, c2, c3, xj_j, xs_m, l3, fm_mtw w1, hga, hgb, nI_clamp (show T.2.2.1 k < 2 ^ 31 by omega), nI_clamp (show T.2.2.2 k < 2 ^ 31 by omega), hm, nm, if_true, nI_1, (bt_k_f _ w1).2.2.2.2.2.2]
  have q2 : T.2.1 k = 4 ∨ T.2.1 k = 5 ∨ T.2.1 k = 7 ∨ T.2.1 k = 8 := h2
  have q4 : ¬ T.2.1 k ≤ 3 := by omega
  simp [q4, q2, hA, hB, np, pd a ha]
-- all parts are there: the dual is made
theorem mm_made {a b : Nat} (hq : q < 58) (hk : k < T.1) (hW : bt_W T) (hM : bt_M T m) (ht : m.1 40 q = nI k) (hm : m.1 39 k = -1) (ha : a < 28) (hb : b < 28) (hA : 4 ≤ T.2.1 k → m.1 39 (T.2.2.1 k) = nI a) (hA2 : ¬ 4 ≤ T.2.1 k → a = T.2.2.1 k) (hB : bo_two (T.2.1 k) → m.1 39 (T.2.2.2 k) = nI b) (hB2 : ¬ bo_two (T.2.1 k) → b = 0) (fu : Nat) :
    mm_dual_l40 F f kk (fu + 1) (nI (q + 1)) m = xc_m (mm_make F (nI (bt_k (T.2.1 k))) (nI a) (nI b) m) fun v m1 => if 0 ≤ v then mm_dual_l40 F f kk fu (nI (q + 1)) (xw_i m1 39 k v) else some ((-2 : Int32), m1) := by
  have hc := hW.1
  obtain ⟨w1, w2, w3, w4, w5, w6, -⟩ := hW.2 k hk
  obtain ⟨c1, c2, c3⟩ := hM.2 k hk
  obtain ⟨s1, s2, s3⟩ := (bo_W.S hW).2 k hk
  have n0 : ¬ nI (q + 1) ≤ 0 := nI_nle (by omega) (by omega)
  have l3 : (nI (T.2.1 k) ≤ 3) ↔ T.2.1 k ≤ 3 := fm_l (n := 3) w1 (by decide)
  have nd : ∀ a, a < 28 → ¬ nI a < 0 := fun a ha => nI_pos (by omega)
  have pd : ∀ a, a < 28 → (0 : Int32) ≤ nI a := fun a ha => nI_pos' (by omega)
  have np : ¬ (0 : Int32) ≤ -1 := by decide
  have nm : (-1 : Int32) < 0 := by decide
  have hgq : ∀ {β : Type} {o : Option β}, xg_n (nI q) 60 o = o := fun {β o} => xg_nI (by omega) (by decide)
  have hgd : ∀ {β : Type} {o : Option β}, xg_n (nI (q + 1)) 60 o = o := fun {β o} => xg_nI (by omega) (by decide)
  have hgk : ∀ {β : Type} {o : Option β}, xg_n (nI k) 28 o = o := fun {β o} => xg_nI (by omega) (by decide)
  have hga : ∀ {β : Type} {o : Option β}, xg_n (nI (T.2.2.1 k)) 28 o = o := fun {β o} => xg_nI (by omega) (by decide)
  have hgb : ∀ {β : Type} {o : Option β}, xg_n (nI (T.2.2.2 k)) 28 o = o := fun {β o} => xg_nI (by omega) (by decide)
  rw [mm_dual_l40, if_neg n0]
  simp only [nI_pred, hgq, hgd, nI_clamp (show q < 2 ^ 31 by omega), nI_clamp (show q + 1 < 2 ^ 31 by omega), ht, hgk, nI_clamp (show k < 2 ^ 31 by omega), c1, c2, c3, xj_j, xs_m, l3, fm_mtw w1, hga, hgb, nI_clamp (show T.2.2.1 k < 2 ^ 31 by omega), nI_clamp (show T.2.2.2 k < 2 ^ 31 by omega), hm, nm, if_true, nI_1, (bt_k_f _ w1).2.2.2.2.2.2]
  by_cases q4 : T.2.1 k ≤ 3
  · have q2 : ¬ (T.2.1 k = 4 ∨ T.2.1 k = 5 ∨ T.2.1 k = 7 ∨ T.2.1 k = 8) := by omega
    rw [hB2 q2, hA2 (by omega)]
    simp [q4, q2]
    rfl
  · by_cases q2 : T.2.1 k = 4 ∨ T.2.1 k = 5 ∨ T.2.1 k = 7 ∨ T.2.1 k = 8
    · simp [q4, q2, hA (by omega), hB q2, pd a ha, pd b hb]
    · rw [hB2 q2]
      simp [q4, q2, hA (by omega), pd a ha]
      rfl
end MSTEP
