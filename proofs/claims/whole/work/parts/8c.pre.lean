/-! The beginning: fresh objects; and the pure goal. -/
def zi_P (a b : Nat) (m : xm_S) : Prop := (∀ k j, k ≠ 6 → k ≠ 12 → m.1 k j = 0) ∧ (∀ j, j < a → m.1 6 j = -1) ∧ (∀ j, j < b → m.1 12 j = -1)
theorem zi_a {a b q : Nat} {m : xm_S} (h6 : q ≠ 6) (h12 : q ≠ 12) (h : zi_P a b m) : zi_P a b (xw_a m q) := by
  refine ⟨fun k j k6 k12 => ?_, fun j hj => ?_, fun j hj => ?_⟩
  · show (if k = q then 0 else m.1 k j) = 0
    split
    · rfl
    · exact h.1 k j k6 k12
  · show (if 6 = q then 0 else m.1 6 j) = -1
    rw [if_neg (fun z => h6 z.symm)]
    exact h.2.1 j hj
  · show (if 12 = q then 0 else m.1 12 j) = -1
    rw [if_neg (fun z => h12 z.symm)]
    exact h.2.2 j hj
theorem zi_o {a b q : Nat} {m : xm_S} (h6 : q ≠ 6) (h12 : q ≠ 12) (h : zi_P a b m) : zi_P a b (xw_o m q) := by
  refine ⟨fun k j k6 k12 => ?_, fun j hj => ?_, fun j hj => ?_⟩
  · show (if k = q then 0 else m.1 k j) = 0
    split
    · rfl
    · exact h.1 k j k6 k12
  · show (if 6 = q then 0 else m.1 6 j) = -1
    rw [if_neg (fun z => h6 z.symm)]
    exact h.2.1 j hj
  · show (if 12 = q then 0 else m.1 12 j) = -1
    rw [if_neg (fun z => h12 z.symm)]
    exact h.2.2 j hj
theorem zi_6 {b : Nat} {m : xm_S} (h : zi_P 0 b m) : zi_P 0 b (xw_a m 6) := by
  refine ⟨fun k j k6 k12 => ?_, fun j hj => by omega, fun j hj => h.2.2 j hj⟩
  show (if k = 6 then 0 else m.1 k j) = 0
  rw [if_neg k6]
  exact h.1 k j k6 k12
theorem zi_12 {a : Nat} {m : xm_S} (h : zi_P a 0 m) : zi_P a 0 (xw_a m 12) := by
  refine ⟨fun k j k6 k12 => ?_, fun j hj => h.2.1 j hj, fun j hj => by omega⟩
  show (if k = 12 then 0 else m.1 k j) = 0
  rw [if_neg k12]
  exact h.1 k j k6 k12
theorem in_bk {F b : Nat} {m : xm_S} (hF : 1000 < F) (h : zi_P 0 b m) : ∃ m', bk_init F m = some m' ∧ zi_P 28 b m' := by
  unfold bk_init
  simp only [xs_m]
  obtain ⟨m', e1, e2, e3⟩ := ja_f5 (c := 6) (n := 28) (x := -1) (by decide) 28 0 F (xw_a (xw_a (xw_a (xw_a (xw_a m 2) 3) 4) 5) 6) (by omega) (by omega) (fun p hp => by omega)
  have z := zi_6 (zi_a (q := 5) (by decide) (by decide) (zi_a (q := 4) (by decide) (by decide) (zi_a (q := 3) (by decide) (by decide) (zi_a (q := 2) (by decide) (by decide) h))))
  have e1' : ja_fill F 6 28 (-1 : Int32) (xw_a (xw_a (xw_a (xw_a (xw_a m 2) 3) 4) 5) 6) = some m' := e1
  rw [e1', xc_vs]
  exact ⟨m', rfl, fun k j k6 k12 => by rw [e3 k k6]; exact z.1 k j k6 k12, e2, fun j hj => by rw [e3 12 (by decide)]; exact z.2.2 j hj⟩
theorem in_wd {F a b : Nat} {m : xm_S} (h : zi_P a b m) : ∃ m', wd_init F m = some m' ∧ zi_P a b m' :=
  ⟨_, rfl, zi_a (by decide) (by decide) (zi_a (by decide) (by decide) h)⟩
theorem in_wt {F a : Nat} {m : xm_S} (hF : 1000 < F) (h : zi_P a 0 m) : ∃ m', wt_init F m = some m' ∧ zi_P a 448 m' := by
  unfold wt_init wy_init wy_init1 wy_init2
  simp only [xs_m, xc_vs]
  have z : zi_P a 0 (xw_a (xw_o (xw_a (xw_o (xw_a (xw_o (xw_a (xw_a (xw_a m 11) 12) 13) 14) 15) 16) 17) 18) 19) := zi_a (by decide) (by decide) (zi_o (by decide) (by decide) (zi_a (by decide) (by decide) (zi_o (by decide) (by decide) (zi_a (by decide) (by decide) (zi_o (by decide) (by decide) (zi_a (by decide) (by decide) (zi_12 (zi_a (by decide) (by decide) h))))))))
  obtain ⟨m', e1, e2, e3⟩ := ja_f5 (c := 12) (n := 448) (x := -1) (by decide) 448 0 F (xw_a (xw_o (xw_a (xw_o (xw_a (xw_o (xw_a (xw_a (xw_a m 11) 12) 13) 14) 15) 16) 17) 18) 19) (by omega) (by omega) (fun p hp => by omega)
  have e1' : ja_fill F 12 448 (-1 : Int32) (xw_a (xw_o (xw_a (xw_o (xw_a (xw_o (xw_a (xw_a (xw_a m 11) 12) 13) 14) 15) 16) 17) 18) 19) = some m' := e1
  rw [e1', xc_vs]
  exact ⟨m', rfl, fun k j k6 k12 => by rw [e3 k k12]; exact z.1 k j k6 k12, fun j hj => by rw [e3 6 (by decide)]; exact z.2.1 j hj, e2⟩
theorem in_au {F a b : Nat} {m : xm_S} (h : zi_P a b m) : ∃ m', au_init F m = some m' ∧ zi_P a b m' :=
  ⟨_, rfl, zi_a (by decide) (by decide) (zi_a (by decide) (by decide) (zi_a (by decide) (by decide) (zi_a (by decide) (by decide) (zi_a (by decide) (by decide) h))))⟩
theorem in_gm {F a b : Nat} {m : xm_S} (h : zi_P a b m) : ∃ m', gm_init F m = some m' ∧ zi_P a b m' :=
  ⟨_, rfl, zi_a (by decide) (by decide) (zi_a (by decide) (by decide) (zi_a (by decide) (by decide) h))⟩
theorem zi_i {a b : Nat} {m : xm_S} (h : zi_P a b m) : zi_P a b (xw_i m 30 1 (0 : Int32)) := by
  refine ⟨fun k j k6 k12 => ?_, fun j hj => by rw [xi_k (by decide)]; exact h.2.1 j hj, fun j hj => by rw [xi_k (by decide)]; exact h.2.2 j hj⟩
  by_cases z : k = 30
  · subst z
    by_cases y : j = 1
    · subst y; exact xi_s
    · rw [xi_j y]; exact h.1 30 j k6 k12
  · rw [xi_k z]; exact h.1 k j k6 k12
theorem in_wi {F a b : Nat} {m : xm_S} (h : zi_P a b m) : ∃ m', wi_init F m = some m' ∧ zi_P a b m' :=
  ⟨_, rfl, zi_a (by decide) (by decide) (zi_a (by decide) (by decide) (zi_a (by decide) (by decide) (zi_a (by decide) (by decide) (zi_i h))))⟩
theorem in_mm {F a b : Nat} {m : xm_S} (h : zi_P a b m) : ∃ m', mm_init F m = some m' ∧ zi_P a b m' := by
  refine ⟨_, rfl, ?_⟩
  repeat (refine zi_a (by decide) (by decide) ?_)
  exact h
theorem in_mk {F : Nat} {m : xm_S} (hF : 1000 < F) (h : zi_P 0 0 m) : ∃ m', mk_init F m = some m' ∧ zi_P 28 448 m' := by
  unfold mk_init
  simp only [xs_m]
  obtain ⟨m1, a1, b1⟩ := in_bk (F := F) (m := xw_o m 1) hF (zi_o (by decide) (by decide) h)
  obtain ⟨m2, a2, b2⟩ := in_wd (F := F) (m := xw_o m1 7) (zi_o (by decide) (by decide) b1)
  obtain ⟨m3, a3, b3⟩ := in_wt (F := F) (m := xw_o m2 10) hF (zi_o (by decide) (by decide) b2)
  obtain ⟨m4, a4, b4⟩ := in_au (F := F) (m := xw_o m3 20) (zi_o (by decide) (by decide) b3)
  obtain ⟨m5, a5, b5⟩ := in_gm (F := F) (m := xw_o m4 26) (zi_o (by decide) (by decide) b4)
  obtain ⟨m6, a6, b6⟩ := in_wi (F := F) (m := xw_o m5 30) (zi_o (by decide) (by decide) b5)
  rw [a1, xc_vs, a2, xc_vs, a3, xc_vs, a4, xc_vs, a5, xc_vs, a6, xc_vs]
  exact ⟨m6, rfl, b6⟩
theorem in_la {F : Nat} (hF : 1000 < F) : ∃ m', la_pre F xm_m0 = some m' ∧ zi_P 28 448 m' := by
  unfold la_pre
  simp only [xs_m]
  have z0 : zi_P 0 0 xm_m0 := ⟨fun _ _ _ _ => rfl, fun j hj => by omega, fun j hj => by omega⟩
  obtain ⟨m1, a1, b1⟩ := in_mk (F := F) (m := xw_o xm_m0 0) hF (zi_o (by decide) (by decide) z0)
  obtain ⟨m2, a2, b2⟩ := in_mm (F := F) (m := xw_o m1 35) (zi_o (by decide) (by decide) b1)
  rw [a1, xc_vs, a2, xc_vs]
  exact ⟨m2, rfl, b2⟩
theorem rr_0 {m : xm_S} (h : zi_P 28 448 m) : rr_P 0 m := by
  have z : ∀ k j, k ≠ 6 → k ≠ 12 → m.1 k j = nI 0 := h.1
  refine ⟨(0, fun _ => 0, fun _ => 0, fun _ => 0), fun _ => 0, ⟨by decide, fun j hj => absurd hj (Nat.not_lt_zero j)⟩, ⟨⟨z 1 5 (by decide) (by decide), fun j hj => absurd hj (Nat.not_lt_zero j)⟩, fun j hj => absurd hj (Nat.not_lt_zero j), fun j hj => Or.inl (h.2.1 j hj), by decide, 0, z 10 4 (by decide) (by decide), Nat.zero_le _, Nat.zero_le _, fun k l hk hl => Or.inl (h.2.2 _ (by omega))⟩, ⟨z 35 0 (by decide) (by decide), fun j hj => absurd hj (Nat.not_lt_zero j)⟩, ?_⟩
  exact wn_0 ⟨z 30 1 (by decide) (by decide), z 30 2 (by decide) (by decide), z 30 3 (by decide) (by decide), z 30 4 (by decide) (by decide)⟩ ⟨z 35 23 (by decide) (by decide), z 35 24 (by decide) (by decide), z 35 25 (by decide) (by decide), z 35 26 (by decide) (by decide)⟩
theorem xm_pure_ok : xm_pure := by
  intro L xs hL
  obtain ⟨F, hF⟩ : ∃ F : Nat, 2 ^ 31 ≤ F := ⟨_, Nat.le_refl _⟩
  obtain ⟨m1, e1, e2⟩ := in_la (F := F) (by omega)
  obtain ⟨N', m', e3, T, PS, hW, hB, -, -⟩ := la_18 (F := F) (L := L) (xs := xs) (kk := fun (n2453 : Nat) (m2452 : xm_S) => some ((1 : Int32), n2453, m2452)) hF hL 512 0 F 0 m1 (by omega) (by omega) (by omega) (rr_0 e2)
  refine ⟨F, m1, m', N', e1, e3, ?_⟩
  have := hB.2.2.2.1
  omega
