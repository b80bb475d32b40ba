/-! Ways, the reference's side. -/
def mr_G (k : Nat) (P : Int64 → Prop) (n : Nat) (m : xm_S) : Prop := m.1 42 k = nI n ∧ n ≤ 60 ∧ en_P P n (fun i => m.2 41 (60 * k + i))
def mr_P (k : Nat) (P : Int64 → Prop) (B : Prop) (m : xm_S) : Prop := (∃ n, mr_G k P n m) ∨ (m.1 42 k = 61 ∧ (¬ sm_P P ∨ B))
def mr_f (k : Nat) (m m' : xm_S) : Prop := (∀ a, a ≠ 42 → m'.1 a = m.1 a) ∧ (∀ j, j ≠ k → m'.1 42 j = m.1 42 j) ∧ (∀ j, j ≠ k → ∀ i, i < 60 → m'.2 41 (60 * j + i) = m.2 41 (60 * j + i))
theorem mr_f0 {k : Nat} {m : xm_S} : mr_f k m m := ⟨fun _ _ => rfl, fun _ _ => rfl, fun _ _ _ _ => rfl⟩
theorem mr_ft {k : Nat} {a b c : xm_S} (h : mr_f k a b) (g : mr_f k b c) : mr_f k a c := ⟨fun x hx => (g.1 x hx).trans (h.1 x hx), fun x hx => (g.2.1 x hx).trans (h.2.1 x hx), fun x hx i hi => (g.2.2 x hx i hi).trans (h.2.2 x hx i hi)⟩
theorem mr_iff {k : Nat} {P Q : Int64 → Prop} {B : Prop} {m : xm_S} (h : ∀ x, P x ↔ Q x) (g : mr_P k P B m) : mr_P k Q B m := by
  rcases g with ⟨n, g1, g2, g3⟩ | ⟨g1, g2⟩
  · exact Or.inl ⟨n, g1, g2, en_iff h g3⟩
  · exact Or.inr ⟨g1, g2.elim (fun z => Or.inl (fun q => z ((sm_iff h).mpr q))) Or.inr⟩
theorem mr_G_f {j k q : Nat} {Q : Int64 → Prop} {m m' : xm_S} (h : mr_G j Q q m) (g : mr_f k m m') (hj : j ≠ k) : mr_G j Q q m' := by
  obtain ⟨h1, h2, h3⟩ := h
  exact ⟨by rw [g.2.1 j hj, h1], h2, en_f (fun i hi => g.2.2 j hj i (by omega)) h3⟩
theorem ma_ix {k i : Nat} : ((60 : Int32) * nI k) + nI i = nI (60 * k + i) := by rw [show (60 : Int32) * nI k = nI (60 * k) from pk_mul 60 k, nI_add]
theorem ma_15 {F k n : Nat} {w : Int64} {P : Int64 → Prop} {kk : xm_S → Option xm_S} {m : xm_S} (hk : k < 28) (hG : mr_G k P n m) : ∀ (r i fu : Nat), i + r = n → r < fu → (∀ j, j < i → ¬ m.2 41 (60 * k + j) = w) →
    (P w ∧ mm_addWay_l15 F (nI k) w kk fu (nI i) m = some m) ∨ (¬ P w ∧ mm_addWay_l15 F (nI k) w kk fu (nI i) m = kk m) := by
  obtain ⟨g1, g2, g3⟩ := hG
  intro r
  induction r with
  | zero =>
    intro i fu hi hf hj
    obtain ⟨fu, rfl⟩ : ∃ g, fu = g + 1 := ⟨fu - 1, by omega⟩
    obtain rfl : i = n := by omega
    refine Or.inr ⟨fun q => ?_, ?_⟩
    · obtain ⟨j, h1, h2⟩ := (g3.2 w).mp q
      exact hj j h1 h2
    · rw [mm_addWay_l15, xg_nI hk (by decide), nI_clamp (by omega), g1, if_pos (nI_le (Nat.le_refl _) (by omega))]
  | succ r ih =>
    intro i fu hi hf hj
    obtain ⟨fu, rfl⟩ : ∃ g, fu = g + 1 := ⟨fu - 1, by omega⟩
    rw [mm_addWay_l15, xg_nI hk (by decide), nI_clamp (by omega), g1, if_neg (nI_ge (by omega) (by omega)), ma_ix, xg_nI (by omega) (by decide), nI_clamp (by omega), nI_1]
    by_cases z : m.2 41 (60 * k + i) = w
    · rw [if_pos ((lg_cmp_eq _ _).mpr z)]
      exact Or.inl ⟨(g3.2 w).mpr ⟨i, by omega, z⟩, rfl⟩
    · rw [if_neg (fun q => z ((lg_cmp_eq _ _).mp q))]
      exact ih (i + 1) fu (by omega) (by omega) (fun j h1 => by
        by_cases e : j = i
        · subst e; exact z
        · exact hj j (by omega))
theorem ma_add {F k : Nat} {w : Int64} {P : Int64 → Prop} {B : Prop} {m : xm_S} (hF : 100 < F) (hk : k < 28) (hP : mr_P k P B m) : ∃ m' : xm_S, mm_addWay F (nI k) w m = some m' ∧ mr_P k (fun x => P x ∨ x = w) B m' ∧ mr_f k m m' := by
  have hcl : (nI k).toNatClampNeg = k := nI_clamp (by omega)
  have hg : ∀ {β : Type} {o : Option β}, xg_n (nI k) 28 o = o := fun {β o} => xg_nI hk (by decide)
  unfold mm_addWay
  rw [hg, hcl]
  rcases hP with ⟨n, hG⟩ | ⟨h1, h2⟩
  · have hG0 := hG
    obtain ⟨g1, g2, g3⟩ := hG
    rw [g1, if_pos (show nI n ≤ (60 : Int32) from nI_le (b := 60) g2 (by decide))]
    rcases ma_15 (F := F) (w := w) (kk := fun (m1500 : xm_S) => xg_n (nI k) 28 (xj_j (fun (m1508 : xm_S) => xg_n (nI k) 28 (xg_n (nI k) 28 (xs_m (xw_i m1508 42 k ((m1508.1 42 k) + (1 : Int32))) fun m1514 => some m1514))) fun j1509 => if (60 : Int32) ≤ (m1500.1 42 k) then j1509 m1500 else xg_n (nI k) 28 (xg_n (((60 : Int32) * nI k) + (m1500.1 42 k)) 1680 (xs_m (xw_l m1500 41 (((60 : Int32) * nI k) + (m1500.1 42 k)).toNatClampNeg w) fun m1519 => j1509 m1519)))) hk hG0 n 0 F (by omega) (by omega) (fun j hj => by omega) with ⟨a1, a2⟩ | ⟨a1, a2⟩
    · refine ⟨m, a2, Or.inl ⟨n, g1, g2, en_iff (fun x => ⟨fun h => Or.inl h, fun h => h.elim id (fun e => by rw [e]; exact a1)⟩) g3⟩, mr_f0⟩
    · have a2' : mm_addWay_l15 F (nI k) w _ F (0 : Int32) m = _ := a2
      rw [a2']
      simp only [xj_j, xs_m, hg, g1]
      by_cases hn : n < 60
      · rw [if_neg (show ¬ (60 : Int32) ≤ nI n from nI_ge (b := 60) hn (by decide)), ma_ix, xg_nI (by omega) (by decide), nI_clamp (by omega), xl_1, g1, nI_1]
        refine ⟨_, rfl, Or.inl ⟨n + 1, xi_s, by omega, ?_⟩, ⟨fun a ha => xi_k ha, fun j hj => xi_j hj, fun j hj i hi => ?_⟩⟩
        · refine en_add g3 a1 (fun i hi => ?_) ?_
          · show (xw_l m 41 (60 * k + n) w).2 41 (60 * k + i) = _
            rw [xl_j (by omega)]
          · show (xw_l m 41 (60 * k + n) w).2 41 (60 * k + n) = _
            rw [xl_s1]
        · show (xw_l m 41 (60 * k + n) w).2 41 (60 * j + i) = _
          rw [xl_j (by omega)]
      · have e60 : n = 60 := by omega
        subst e60
        rw [if_pos (show (60 : Int32) ≤ nI 60 by decide)]
        rw [show nI 60 + 1 = (61 : Int32) from rfl]
        refine ⟨_, rfl, Or.inr ⟨xi_s, Or.inl ?_⟩, ⟨fun a ha => xi_k ha, fun j hj => xi_j hj, fun j hj i hi => rfl⟩⟩
        exact en_big (en_add (s := fun i => if i = 60 then w else m.2 41 (60 * k + i)) g3 a1 (fun i hi => by simp [Nat.ne_of_lt hi]) (by simp)) (by decide)
  · rw [h1, if_neg (by decide)]
    exact ⟨m, rfl, Or.inr ⟨h1, h2.elim (fun z => Or.inl (fun q => z (sm_mono (fun x hx => Or.inl hx) q))) Or.inr⟩, mr_f0⟩
theorem ma_3 {F k a q : Nat} {w : Int64} {Q P : Int64 → Prop} {B : Prop} {kk : xm_S → Option xm_S} (hF : 100 < F) (hk : k < 28) (ha : a < k) : ∀ (r i fu : Nat) (m : xm_S), i + r = q → r < fu → mr_G a Q q m → mr_P k (fun x => P x ∨ ∃ j, j < i ∧ x = m.2 41 (60 * a + j) ||| w) B m →
    ∃ m' : xm_S, mm_addAll_l3 F (nI k) (nI a) w kk fu (nI i) m = kk m' ∧ mr_P k (fun x => P x ∨ ∃ u, Q u ∧ x = u ||| w) B m' ∧ mr_f k m m' := by
  intro r
  induction r with
  | zero =>
    intro i fu m hi hfu hG hP
    obtain ⟨fu, rfl⟩ : ∃ g, fu = g + 1 := ⟨fu - 1, by omega⟩
    obtain rfl : i = q := by omega
    obtain ⟨g1, g2, g3⟩ := hG
    refine ⟨m, ?_, mr_iff (fun x => ?_) hP, mr_f0⟩
    · rw [mm_addAll_l3, xg_nI (by omega) (by decide), nI_clamp (by omega), g1, if_pos (nI_le (Nat.le_refl _) (by omega))]
    · constructor
      · rintro (h | ⟨j, h1, h2⟩)
        · exact Or.inl h
        · exact Or.inr ⟨_, (g3.2 _).mpr ⟨j, h1, rfl⟩, h2⟩
      · rintro (h | ⟨u, h1, h2⟩)
        · exact Or.inl h
        · obtain ⟨j, h3, h4⟩ := (g3.2 _).mp h1
          exact Or.inr ⟨j, h3, by rw [h2, ← h4]⟩
  | succ r ih =>
    intro i fu m hi hfu hG hP
    obtain ⟨fu, rfl⟩ : ∃ g, fu = g + 1 := ⟨fu - 1, by omega⟩
    have hG0 := hG
    obtain ⟨g1, g2, g3⟩ := hG
    rw [mm_addAll_l3, xg_nI (by omega) (by decide), nI_clamp (by omega), g1, if_neg (nI_ge (by omega) (by omega)), xg_nI (show a < 28 by omega) (by decide), if_neg (show ¬ (60 : Int32) < nI q from nI_nlt (a := 60) g2 (by decide)), ma_ix, xg_nI (by omega) (by decide), nI_clamp (by omega), nI_1]
    obtain ⟨m1, e1, e2, e3⟩ := ma_add (F := F) (w := m.2 41 (60 * a + i) ||| w) hF hk hP
    rw [e1]
    simp only [xc_v]
    obtain ⟨m2, e4, e5, e6⟩ := ih (i + 1) fu m1 (by omega) (by omega) (mr_G_f hG0 e3 (by omega)) (mr_iff (fun x => by
      have hrow : ∀ j, j < 60 → m1.2 41 (60 * a + j) = m.2 41 (60 * a + j) := fun j hj => e3.2.2 a (by omega) j hj
      constructor
      · rintro ((h | ⟨j, h1, h2⟩) | h)
        · exact Or.inl h
        · exact Or.inr ⟨j, by omega, by rw [hrow j (by omega)]; exact h2⟩
        · exact Or.inr ⟨i, by omega, by rw [hrow i (by omega)]; exact h⟩
      · rintro (h | ⟨j, h1, h2⟩)
        · exact Or.inl (Or.inl h)
        · rw [hrow j (by omega)] at h2
          by_cases e : j = i
          · subst e; exact Or.inr h2
          · exact Or.inl (Or.inr ⟨j, by omega, h2⟩)) e2)
    exact ⟨m2, e4, e5, mr_ft e3 e6⟩
-- a part's row, or what was wrong with it
def mr_Q (a : Nat) (Q : Int64 → Prop) (B : Prop) (m : xm_S) : Prop := (∃ q, mr_G a Q q m) ∨ (m.1 42 a = 61 ∧ B)
theorem mr_Q_f {j k : Nat} {Q : Int64 → Prop} {B : Prop} {m m' : xm_S} (h : mr_Q j Q B m) (g : mr_f k m m') (hj : j ≠ k) : mr_Q j Q B m' := by
  rcases h with ⟨q, h⟩ | ⟨h1, h2⟩
  · exact Or.inl ⟨q, mr_G_f h g hj⟩
  · exact Or.inr ⟨by rw [g.2.1 j hj, h1], h2⟩
theorem ma_same {k : Nat} {P : Int64 → Prop} {B : Prop} {m : xm_S} (hP : mr_P k P B m) : mr_P k P B (xw_i m 42 k (m.1 42 k)) ∧ mr_f k m (xw_i m 42 k (m.1 42 k)) := by
  have e : (xw_i m 42 k (m.1 42 k)).1 42 k = m.1 42 k := xi_s
  refine ⟨?_, ⟨fun a ha => xi_k ha, fun j hj => xi_j hj, fun j hj i hi => rfl⟩⟩
  rcases hP with ⟨n, g1, g2, g3⟩ | ⟨g1, g2⟩
  · exact Or.inl ⟨n, by rw [e, g1], g2, g3⟩
  · exact Or.inr ⟨by rw [e, g1], g2⟩
theorem ma_61 {k : Nat} {P : Int64 → Prop} {B : Prop} {m : xm_S} (hB : B) : mr_P k P B (xw_i m 42 k 61) ∧ mr_f k m (xw_i m 42 k 61) := ⟨Or.inr ⟨xi_s, Or.inr hB⟩, ⟨fun a ha => xi_k ha, fun j hj => xi_j hj, fun j hj i hi => rfl⟩⟩
theorem ma_all {F k a : Nat} {w : Int64} {Q P : Int64 → Prop} {B : Prop} {m : xm_S} (hF : 100 < F) (hk : k < 28) (ha : a < k) (hQ : mr_Q a Q B m) (hP : mr_P k P B m) : ∃ m' : xm_S, mm_addAll F (nI k) (nI a) w m = some m' ∧ mr_P k (fun x => P x ∨ ∃ u, Q u ∧ x = u ||| w) B m' ∧ mr_f k m m' := by
  have hcl : (nI k).toNatClampNeg = k := nI_clamp (by omega)
  have hcla : (nI a).toNatClampNeg = a := nI_clamp (by omega)
  have hg : ∀ {β : Type} {o : Option β}, xg_n (nI k) 28 o = o := fun {β o} => xg_nI hk (by decide)
  have hga : ∀ {β : Type} {o : Option β}, xg_n (nI a) 28 o = o := fun {β o} => xg_nI (by omega) (by decide)
  unfold mm_addAll
  rcases hQ with ⟨q, hG⟩ | ⟨h1, h2⟩
  · obtain ⟨m1, e1, e2, e3⟩ := ma_3 (F := F) (w := w) (kk := fun (m1613 : xm_S) => xg_n (nI a) 28 (xj_j (fun (x1618 : Int32) => xg_n (nI k) 28 (xs_m (xw_i m1613 42 (nI k).toNatClampNeg x1618) fun m1623 => some m1623)) fun j1619 => if (m1613.1 42 (nI a).toNatClampNeg) ≤ (60 : Int32) then xg_n (nI k) 28 (j1619 (m1613.1 42 (nI k).toNatClampNeg)) else j1619 (61 : Int32))) hF hk ha q 0 F m (by omega) (by have := hG.2.1; omega) hG (mr_iff (fun x => ⟨fun h => Or.inl h, fun h => h.elim id (fun ⟨j, h1, _⟩ => by omega)⟩) hP)
    have e1' : mm_addAll_l3 F (nI k) (nI a) w _ F (0 : Int32) m = _ := e1
    rw [e1']
    obtain ⟨g1, g2, g3⟩ := mr_G_f hG e3 (by omega)
    simp only [xj_j, xs_m, hg, hga, hcl, hcla]
    rw [if_pos (by rw [g1]; exact nI_le (b := 60) g2 (by decide))]
    obtain ⟨f1, f2⟩ := ma_same e2
    exact ⟨_, rfl, f1, mr_ft e3 f2⟩
  · obtain ⟨G, rfl⟩ : ∃ G, F = G + 1 := ⟨F - 1, by omega⟩
    rw [mm_addAll_l3, hga, hcla, h1, if_neg (by decide), hga, if_pos (by decide)]
    simp only [xj_j, xs_m, hg, hga, hcl, h1]
    rw [if_neg (by decide)]
    obtain ⟨f1, f2⟩ := ma_61 (k := k) (P := fun x => P x ∨ ∃ u, Q u ∧ x = u ||| w) (m := m) h2
    exact ⟨_, rfl, f1, f2⟩
