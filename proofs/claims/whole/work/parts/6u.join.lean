/-! The ways of a set of formulas: the reference's side. -/
def jm_f (m m' : xm_S) : Prop := (∀ a, a ≠ 35 → m'.1 a = m.1 a) ∧ (∀ j, j ≠ 9 → m'.1 35 j = m.1 35 j) ∧ (∀ a, a ≠ 43 → a ≠ 44 → m'.2 a = m.2 a)
def jm_g (m m' : xm_S) : Prop := jm_f m m' ∧ m'.2 43 = m.2 43
theorem jm_f0 {m : xm_S} : jm_f m m := ⟨fun _ _ => rfl, fun _ _ => rfl, fun _ _ _ => rfl⟩
theorem jm_ft {a b c : xm_S} (h : jm_f a b) (k : jm_f b c) : jm_f a c := ⟨fun x hx => (k.1 x hx).trans (h.1 x hx), fun x hx => (k.2.1 x hx).trans (h.2.1 x hx), fun x h1 h2 => (k.2.2 x h1 h2).trans (h.2.2 x h1 h2)⟩
theorem jm_g0 {m : xm_S} : jm_g m m := ⟨jm_f0, rfl⟩
theorem jm_gt {a b c : xm_S} (h : jm_g a b) (k : jm_g b c) : jm_g a c := ⟨jm_ft h.1 k.1, k.2.trans h.2⟩
def jm_G (P : Int64 → Prop) (n : Nat) (m : xm_S) : Prop := m.1 35 9 = nI n ∧ n ≤ 60 ∧ en_P P n (m.2 44)
def jm_P (P : Int64 → Prop) (m : xm_S) : Prop := (∃ n, jm_G P n m) ∨ (m.1 35 9 = 61 ∧ ¬ sm_P P)
def jm_J (P : Int64 → Prop) (n : Nat) (m : xm_S) : Prop := m.1 35 9 = nI n ∧ n ≤ 60 ∧ en_P P n (m.2 43)
theorem jm_iff {P Q : Int64 → Prop} {m : xm_S} (h : ∀ x, P x ↔ Q x) (g : jm_P P m) : jm_P Q m := by
  rcases g with ⟨n, g1, g2, g3⟩ | ⟨g1, g2⟩
  · exact Or.inl ⟨n, g1, g2, en_iff h g3⟩
  · exact Or.inr ⟨g1, fun q => g2 ((sm_iff h).mpr q)⟩
theorem jm_3 {F n : Nat} {w : Int64} {P : Int64 → Prop} {kk : Int32 → xm_S → Option xm_S} {m : xm_S} (hn : n ≤ 60) (g3 : en_P P n (m.2 44)) : ∀ (r i fu : Nat), i + r = n → r < fu → (∀ j, j < i → ¬ m.2 44 j = w) →
    (P w ∧ ∃ p, p < n ∧ mm_keep_l3 F (nI n) w kk fu (nI i) m = kk (nI p) m) ∨ (¬ P w ∧ mm_keep_l3 F (nI n) w kk fu (nI i) m = kk (nI n) m) := by
  intro r
  induction r with
  | zero =>
    intro i fu hi hf hj
    obtain ⟨fu, rfl⟩ : ∃ g, fu = g + 1 := ⟨fu - 1, by omega⟩
    obtain rfl : i = n := by omega
    refine Or.inr ⟨fun q => ?_, ?_⟩
    · obtain ⟨j, h1, h2⟩ := (g3.2 w).mp q
      exact hj j h1 h2
    · rw [mm_keep_l3, if_pos (nI_le (Nat.le_refl _) (by omega))]
  | succ r ih =>
    intro i fu hi hf hj
    obtain ⟨fu, rfl⟩ : ∃ g, fu = g + 1 := ⟨fu - 1, by omega⟩
    rw [mm_keep_l3, if_neg (nI_ge (by omega) (by omega)), xg_nI (by omega) (by decide), nI_clamp (by omega), nI_1]
    by_cases z : m.2 44 i = w
    · rw [if_pos ((lg_cmp_eq _ _).mpr z)]
      exact Or.inl ⟨(g3.2 w).mpr ⟨i, by omega, z⟩, i, by omega, rfl⟩
    · rw [if_neg (fun q => z ((lg_cmp_eq _ _).mp q))]
      exact ih (i + 1) fu (by omega) (by omega) (fun j h1 => by
        by_cases e : j = i
        · subst e; exact z
        · exact hj j (by omega))
theorem jm_keep {F n : Nat} {w : Int64} {P : Int64 → Prop} {m : xm_S} (hF : 100 < F) (hG : jm_G P n m) : ∃ m' : xm_S, mm_keep F (nI n) w m = some m' ∧ jm_P (fun x => P x ∨ x = w) m' ∧ jm_g m m' := by
  obtain ⟨g1, g2, g3⟩ := hG
  unfold mm_keep
  rcases jm_3 (F := F) (w := w) (kk := fun (x1817 : Int32) (m1818 : xm_S) => if (nI n) ≤ x1817 then xj_j (fun (m1825 : xm_S) => xs_m (xw_i m1825 35 9 ((nI n) + (1 : Int32))) fun m1829 => some m1829) fun j1826 => if (61 : Int32) ≤ (nI n) then j1826 m1818 else xg_n (nI n) 61 (xs_m (xw_l m1818 44 (nI n).toNatClampNeg w) fun m1833 => j1826 m1833) else some m1818) g2 g3 n 0 F (by omega) (by omega) (fun j hj => by omega) with ⟨a1, p, a2, a3⟩ | ⟨a1, a2⟩
  · have a3' : mm_keep_l3 F (nI n) w _ F (0 : Int32) m = _ := a3
    rw [a3', if_neg (nI_ge a2 (by omega))]
    exact ⟨m, rfl, Or.inl ⟨n, g1, g2, en_iff (fun x => ⟨fun h => Or.inl h, fun h => h.elim id (fun e => by rw [e]; exact a1)⟩) g3⟩, jm_g0⟩
  · have a2' : mm_keep_l3 F (nI n) w _ F (0 : Int32) m = _ := a2
    rw [a2', if_pos (nI_le (Nat.le_refl _) (by omega))]
    simp only [xj_j, xs_m]
    rw [if_neg (show ¬ (61 : Int32) ≤ nI n from nI_ge (b := 61) (by omega) (by decide)), xg_nI (by omega) (by decide), nI_clamp (by omega), nI_1]
    have hen : en_P (fun x => P x ∨ x = w) (n + 1) ((xw_l m 44 n w).2 44) := en_add g3 a1 (fun i hi => xl_j (by omega)) xl_s1
    refine ⟨_, rfl, ?_, ⟨⟨fun a ha => xi_k ha, fun j hj => xi_j hj, fun a h1 h2 => xl_k h2⟩, show (xw_l m 44 n w).2 43 = m.2 43 from xl_k (by decide)⟩⟩
    by_cases hn : n < 60
    · exact Or.inl ⟨n + 1, xi_s, by omega, hen⟩
    · have e60 : n = 60 := by omega
      subst e60
      exact Or.inr ⟨xi_s, en_big hen (by decide)⟩
theorem jm_66 {F k i q : Nat} {x1 x3 : Int32} {P Q : Int64 → Prop} {kk : xm_S → Option (Int32 × xm_S)} (hF : 100 < F) (hk : k < 28) (hi : i < 60) : ∀ (r j fu : Nat) (m : xm_S), j + r = q → r < fu → mr_G k Q q m → jm_P (fun x => P x ∨ ∃ t, t < j ∧ x = m.2 43 i ||| m.2 41 (60 * k + t)) m →
    ∃ m' : xm_S, mm_join_l66 F x1 (nI k) x3 (nI i) kk fu (nI j) m = kk m' ∧ jm_P (fun x => P x ∨ ∃ v, Q v ∧ x = m.2 43 i ||| v) m' ∧ jm_g m m' := by
  intro r
  induction r with
  | zero =>
    intro j fu m hj hfu hG hP
    obtain ⟨fu, rfl⟩ : ∃ g, fu = g + 1 := ⟨fu - 1, by omega⟩
    obtain rfl : j = q := by omega
    obtain ⟨g1, g2, g3⟩ := hG
    refine ⟨m, ?_, jm_iff (fun x => ?_) hP, jm_g0⟩
    · rw [mm_join_l66, xg_nI (by omega) (by decide), nI_clamp (by omega), g1, if_pos (nI_le (Nat.le_refl _) (by omega))]
    · constructor
      · rintro (h | ⟨t, h1, h2⟩)
        · exact Or.inl h
        · exact Or.inr ⟨_, (g3.2 _).mpr ⟨t, h1, rfl⟩, h2⟩
      · rintro (h | ⟨u, h1, h2⟩)
        · exact Or.inl h
        · obtain ⟨t, h3, h4⟩ := (g3.2 _).mp h1
          exact Or.inr ⟨t, h3, by rw [h2, ← h4]⟩
  | succ r ih =>
    intro j fu m hj hfu hG hP
    obtain ⟨fu, rfl⟩ : ∃ g, fu = g + 1 := ⟨fu - 1, by omega⟩
    have hG0 := hG
    obtain ⟨g1, g2, g3⟩ := hG
    rw [mm_join_l66, xg_nI (by omega) (by decide), nI_clamp (by omega), g1, if_neg (nI_ge (by omega) (by omega))]
    rcases hP with ⟨n, hN⟩ | ⟨h1, h2⟩
    · rw [hN.1, if_neg (show ¬ (60 : Int32) < nI n from nI_nlt (a := 60) hN.2.1 (by decide)), ma_ix, xg_nI (show i < 61 by omega) (by decide), xg_nI (show 60 * k + j < 1680 by omega) (by decide), nI_clamp (show i < 2 ^ 31 by omega), nI_clamp (show 60 * k + j < 2 ^ 31 by omega), nI_1]
      obtain ⟨m1, e1, e2, e3⟩ := jm_keep (F := F) (w := m.2 43 i ||| m.2 41 (60 * k + j)) hF hN
      rw [e1]
      simp only [xc_v]
      have h41 : m1.2 41 = m.2 41 := e3.1.2.2 41 (by decide) (by decide)
      have h42 : m1.1 42 = m.1 42 := e3.1.1 42 (by decide)
      obtain ⟨m2, e4, e5, e6⟩ := ih (j + 1) fu m1 (by omega) (by omega) (by unfold mr_G; rw [h41, h42]; exact hG0) (jm_iff (fun x => by
        rw [e3.2, h41]
        constructor
        · rintro ((h | ⟨t, h1, h2⟩) | h)
          · exact Or.inl h
          · exact Or.inr ⟨t, by omega, h2⟩
          · exact Or.inr ⟨j, by omega, h⟩
        · rintro (h | ⟨t, h1, h2⟩)
          · exact Or.inl (Or.inl h)
          · by_cases e : t = j
            · subst e; exact Or.inr h2
            · exact Or.inl (Or.inr ⟨t, by omega, h2⟩)) e2)
      rw [e3.2] at e5
      exact ⟨m2, e4, e5, jm_gt e3 e6⟩
    · rw [h1, if_pos (by decide)]
      refine ⟨m, rfl, Or.inr ⟨h1, fun q => h2 (sm_mono (fun x hx => ?_) q)⟩, jm_g0⟩
      rcases hx with h | ⟨t, h3, h4⟩
      · exact Or.inl h
      · exact Or.inr ⟨_, (g3.2 _).mpr ⟨t, by omega, rfl⟩, h4⟩
theorem jm_57 {F k n q : Nat} {x1 : Int32} {P Q : Int64 → Prop} {kk : xm_S → Option (Int32 × xm_S)} (hF : 100 < F) (hk : k < 28) (hn : n ≤ 60) : ∀ (r i fu : Nat) (m : xm_S), i + r = n → r < fu → mr_G k Q q m → en_P P n (m.2 43) → jm_P (fun x => ∃ t, t < i ∧ ∃ v, Q v ∧ x = m.2 43 t ||| v) m →
    ∃ m' : xm_S, mm_join_l57 F x1 (nI k) (nI n) kk fu (nI i) m = kk m' ∧ jm_P (fun x => ∃ u v, P u ∧ Q v ∧ x = v ||| u) m' ∧ jm_g m m' := by
  intro r
  induction r with
  | zero =>
    intro i fu m hi hfu hG hE hP
    obtain ⟨fu, rfl⟩ : ∃ g, fu = g + 1 := ⟨fu - 1, by omega⟩
    obtain rfl : i = n := by omega
    refine ⟨m, ?_, jm_iff (fun x => ?_) hP, jm_g0⟩
    · rw [mm_join_l57, if_pos (nI_le (Nat.le_refl _) (by omega))]
    · constructor
      · rintro ⟨t, h1, v, h2, h3⟩
        exact ⟨_, v, (hE.2 _).mpr ⟨t, h1, rfl⟩, h2, by rw [h3, Int64.or_comm]⟩
      · rintro ⟨u, v, h1, h2, h3⟩
        obtain ⟨t, h4, h5⟩ := (hE.2 _).mp h1
        exact ⟨t, h4, v, h2, by rw [h3, ← h5, Int64.or_comm]⟩
  | succ r ih =>
    intro i fu m hi hfu hG hE hP
    obtain ⟨fu, rfl⟩ : ∃ g, fu = g + 1 := ⟨fu - 1, by omega⟩
    have hq := hG.2.1
    rw [mm_join_l57, if_neg (nI_ge (by omega) (by omega)), nI_1]
    obtain ⟨m1, e1, e2, e3⟩ := jm_66 (F := F) (i := i) (x1 := x1) (x3 := nI n) (kk := fun (m1839 : xm_S) => mm_join_l57 F x1 (nI k) (nI n) kk fu (nI (i + 1)) m1839) hF hk (by omega) q 0 F m (by omega) (by omega) hG (jm_iff (fun x => ⟨fun h => Or.inl h, fun h => h.elim id (fun ⟨j, h1, _⟩ => by omega)⟩) hP)
    have e1' : mm_join_l66 F x1 (nI k) (nI n) (nI i) _ F (0 : Int32) m = _ := e1
    rw [e1']
    have h41 : m1.2 41 = m.2 41 := e3.1.2.2 41 (by decide) (by decide)
    have h42 : m1.1 42 = m.1 42 := e3.1.1 42 (by decide)
    obtain ⟨m2, e4, e5, e6⟩ := ih (i + 1) fu m1 (by omega) (by omega) (by unfold mr_G; rw [h41, h42]; exact hG) (by rw [e3.2]; exact hE) (jm_iff (fun x => by
      rw [e3.2]
      constructor
      · rintro (⟨t, h1, h2⟩ | h)
        · exact ⟨t, by omega, h2⟩
        · exact ⟨i, by omega, h⟩
      · rintro ⟨t, h1, h2⟩
        by_cases e : t = i
        · subst e; exact Or.inr h2
        · exact Or.inl ⟨t, by omega, h2⟩) e2)
    exact ⟨m2, e4, e5, jm_gt e3 e6⟩
theorem jm_140 {F n : Nat} {x1 x2 : Int32} {kk : xm_S → Option (Int32 × xm_S)} (hn : n ≤ 60) : ∀ (r i fu : Nat) (m : xm_S), i + r = n → r < fu → m.1 35 9 = nI n → (∀ t, t < i → m.2 43 t = m.2 44 t) →
    ∃ m' : xm_S, mm_join_l140 F x1 x2 kk fu (nI i) m = kk m' ∧ m'.1 = m.1 ∧ (∀ t, t < n → m'.2 43 t = m.2 44 t) ∧ (∀ a, a ≠ 43 → m'.2 a = m.2 a) := by
  intro r
  induction r with
  | zero =>
    intro i fu m hi hfu hc hP
    obtain ⟨fu, rfl⟩ : ∃ g, fu = g + 1 := ⟨fu - 1, by omega⟩
    obtain rfl : i = n := by omega
    refine ⟨m, ?_, rfl, hP, fun _ _ => rfl⟩
    rw [mm_join_l140, hc, if_pos (nI_le (Nat.le_refl _) (by omega))]
  | succ r ih =>
    intro i fu m hi hfu hc hP
    obtain ⟨fu, rfl⟩ : ∃ g, fu = g + 1 := ⟨fu - 1, by omega⟩
    rw [mm_join_l140, hc, if_neg (nI_ge (by omega) (by omega)), xg_nI (by omega) (by decide), xg_nI (by omega) (by decide), nI_clamp (by omega), nI_1]
    unfold xs_m
    have e44 : (xw_l m 43 i (m.2 44 i)).2 44 = m.2 44 := xl_k (by decide)
    obtain ⟨m', e1, e2, e3, e4⟩ := ih (i + 1) fu (xw_l m 43 i (m.2 44 i)) (by omega) (by omega) hc (fun t ht => by
      rw [e44]
      by_cases e : t = i
      · subst e; exact xl_s1
      · rw [xl_j e]; exact hP t (by omega))
    exact ⟨m', e1, e2, fun t ht => by rw [e3 t ht, e44], fun a ha => by rw [e4 a ha, xl_k ha]⟩
theorem jm_14 {F l S : Nat} {T : bo_T} {kk : xm_S → Option (Int32 × xm_S)} (hF : 100 < F) (hT : T.1 ≤ 28) (hS : S < 2 ^ T.1) : ∀ (r k fu n : Nat) (m : xm_S), k + r = T.1 → r < fu → m.1 35 0 = nI T.1 → (∀ j, S.testBit j = true → ∃ q, mr_G j (wp_f T l j) q m) → (∀ j, j ≤ k → sm_P (jp_w T l S j)) → jm_J (jp_w T l S k) n m →
    ∃ m' : xm_S, jm_f m m' ∧ ((mm_join_l14 F (nI S) kk fu (nI k) m = kk m' ∧ jo_w T l S 28 ∧ ∃ n, jm_J (jp_w T l S 28) n m') ∨ (mm_join_l14 F (nI S) kk fu (nI k) m = some (0, m') ∧ ¬ jo_w T l S 28)) := by
  have hS28 : S < 2 ^ 28 := Nat.lt_of_lt_of_le hS (Nat.pow_le_pow_right (by decide) hT)
  have hS31 : S < 2 ^ 31 := Nat.lt_of_lt_of_le hS28 (by decide)
  intro r
  induction r with
  | zero =>
    intro k fu n m hk hfu h0 hrow hsm hJ
    obtain ⟨fu, rfl⟩ : ∃ g, fu = g + 1 := ⟨fu - 1, by omega⟩
    obtain rfl : k = T.1 := by omega
    have hall : ∀ j, T.1 ≤ j → jp_w T l S j = jp_w T l S T.1 := fun j hj => by
      obtain ⟨d, rfl⟩ : ∃ d, j = T.1 + d := ⟨j - T.1, by omega⟩
      exact jp_hi hS d
    refine ⟨m, jm_f0, Or.inl ⟨?_, fun j hj => ?_, n, by rw [hall 28 hT]; exact hJ⟩⟩
    · rw [mm_join_l14, h0, if_pos (nI_le (Nat.le_refl _) (by omega))]
    · by_cases e : j ≤ T.1
      · exact hsm j e
      · rw [hall j (by omega)]; exact hsm _ (Nat.le_refl _)
  | succ r ih =>
    intro k fu n m hk hfu h0 hrow hsm hJ
    obtain ⟨fu, rfl⟩ : ∃ g, fu = g + 1 := ⟨fu - 1, by omega⟩
    rw [mm_join_l14, h0, if_neg (nI_ge (by omega) (by omega)), nb_bit hS31 (by omega), nb_tb, nI_1]
    by_cases hb : S.testBit k = true
    · rw [if_pos hb, if_pos (show nI 1 = (1 : Int32) from rfl), xg_nI (by omega) (by decide), nI_clamp (by omega)]
      obtain ⟨q, hG⟩ := hrow k hb
      rw [hG.1, if_pos (show nI q ≤ (60 : Int32) from nI_le (b := 60) hG.2.1 (by decide)), hJ.1]
      simp only [xs_m]
      have z0 : jm_f m (xw_i m 35 9 0) := ⟨fun a ha => xi_k ha, fun j hj => xi_j hj, fun _ _ _ => rfl⟩
      have G0 : ∀ (m' : xm_S) j q', jm_f m m' → mr_G j (wp_f T l j) q' m → mr_G j (wp_f T l j) q' m' := fun m' j q' hf hg => by
        unfold mr_G; rw [hf.1 42 (by decide), hf.2.2 41 (by decide) (by decide)]; exact hg
      obtain ⟨m1, e1, e2, e3⟩ := jm_57 (F := F) (k := k) (n := n) (q := q) (x1 := nI S) (P := jp_w T l S k) (Q := wp_f T l k) (kk := fun (m1840 : xm_S) => if (m1840.1 35 9) ≤ (60 : Int32) then mm_join_l140 F (nI S) (nI k) (fun (m1851 : xm_S) => mm_join_l14 F (nI S) kk fu (nI (k + 1)) m1851) F (0 : Int32) m1840 else some ((0 : Int32), m1840)) hF (by omega) hJ.2.1 n 0 F (xw_i m 35 9 0) (by omega) (by have := hJ.2.1; omega) (G0 _ _ _ z0 hG) hJ.2.2 (Or.inl ⟨0, xi_s, by decide, ⟨fun i j hi => by omega, fun x => ⟨fun ⟨t, h, _⟩ => by omega, fun ⟨t, h, _⟩ => by omega⟩⟩⟩)
      have e1' : mm_join_l57 F (nI S) (nI k) (nI n) _ F (0 : Int32) (xw_i m 35 9 0) = _ := e1
      rw [e1']
      have f1 : jm_f m m1 := jm_ft z0 e3.1
      have e2' : jm_P (jp_w T l S (k + 1)) m1 := by rw [jp_1 hb]; exact e2
      rcases e2' with ⟨n', hN⟩ | ⟨h1, h2⟩
      · rw [hN.1, if_pos (show nI n' ≤ (60 : Int32) from nI_le (b := 60) hN.2.1 (by decide))]
        obtain ⟨m2, c1, c2, c3, c4⟩ := jm_140 (F := F) (n := n') (x1 := nI S) (x2 := nI k) (kk := fun (m1851 : xm_S) => mm_join_l14 F (nI S) kk fu (nI (k + 1)) m1851) hN.2.1 n' 0 F m1 (by omega) (by have := hN.2.1; omega) hN.1 (fun t ht => by omega)
        have c1' : mm_join_l140 F (nI S) (nI k) _ F (0 : Int32) m1 = _ := c1
        rw [c1']
        have f2 : jm_f m m2 := jm_ft f1 ⟨fun a _ => by rw [c2], fun j _ => by rw [c2], fun a h1 h2 => c4 a h1⟩
        obtain ⟨m', d1, d2⟩ := ih (k + 1) fu n' m2 (by omega) (by omega) (by rw [f2.2.1 0 (by decide), h0]) (fun j hj => by
          obtain ⟨q', hq'⟩ := hrow j hj
          exact ⟨q', G0 _ _ _ f2 hq'⟩) (fun j hj => by
          by_cases e : j = k + 1
          · subst e; exact en_sm hN.2.2 hN.2.1
          · exact hsm j (by omega)) ⟨by rw [c2, hN.1], hN.2.1, en_f (fun t ht => c3 t ht) hN.2.2⟩
        exact ⟨m', jm_ft f2 d1, d2⟩
      · rw [h1, if_neg (by decide)]
        exact ⟨m1, f1, Or.inr ⟨rfl, fun q => h2 (q (k + 1) (by omega))⟩⟩
    · have hb0 : S.testBit k = false := by cases h : S.testBit k with
        | true => exact absurd h hb
        | false => rfl
      rw [if_neg hb, if_neg (show ¬ nI 0 = (1 : Int32) by decide)]
      exact ih (k + 1) fu n m (by omega) (by omega) h0 hrow (fun j hj => by
        by_cases e : j = k + 1
        · subst e; rw [jp_n hb0]; exact hsm k (by omega)
        · exact hsm j (by omega)) (by rw [jp_n hb0]; exact hJ)
theorem jm_all {F l S : Nat} {T : bo_T} {m : xm_S} (hF : 100 < F) (hT : T.1 ≤ 28) (hS : S < 2 ^ T.1) (h0 : m.1 35 0 = nI T.1) (hrow : ∀ j, S.testBit j = true → ∃ q, mr_G j (wp_f T l j) q m) :
    ∃ (v : Int32) (m' : xm_S), mm_join F (nI S) m = some (v, m') ∧ jm_f m m' ∧ ((v = 1 ∧ jo_w T l S 28 ∧ ∃ n, jm_J (jp_w T l S 28) n m') ∨ (v = 0 ∧ ¬ jo_w T l S 28)) := by
  unfold mm_join
  simp only [xs_m]
  rw [xg_0 (by decide) (by decide), nz_0]
  have f0 : jm_f m (xw_l (xw_i m 35 9 1) 43 0 0) := ⟨fun a ha => by rw [xl_1]; exact xi_k ha, fun j hj => by rw [xl_1]; exact xi_j hj, fun a h1 h2 => xl_k h1⟩
  obtain ⟨m', d1, d2⟩ := jm_14 (F := F) (l := l) (S := S) (T := T) (kk := fun (m1852 : xm_S) => some ((1 : Int32), m1852)) hF hT hS T.1 0 F 1 (xw_l (xw_i m 35 9 1) 43 0 0) (by omega) (by omega) (by rw [f0.2.1 0 (by decide), h0]) (fun j hj => by
    obtain ⟨q', hq'⟩ := hrow j hj
    exact ⟨q', by unfold mr_G; rw [f0.1 42 (by decide), f0.2.2 41 (by decide) (by decide)]; exact hq'⟩) (fun j hj => by
    obtain rfl : j = 0 := by omega
    exact jp_0) ⟨by rw [xl_1]; exact xi_s, by decide, ⟨fun i j hi hj _ => by omega, fun x => ⟨fun hx => ⟨0, by decide, by rw [show x = 0 from hx]; exact xl_s1⟩, fun ⟨i, hi, e⟩ => by
      obtain rfl : i = 0 := by omega
      have : (xw_l (xw_i m 35 9 1) 43 0 0).2 43 0 = (0 : Int64) := xl_s1
      rw [this] at e
      exact e.symm⟩⟩⟩
  rcases d2 with ⟨a1, a2, a3⟩ | ⟨a1, a2⟩
  · exact ⟨1, m', a1, jm_ft f0 d1, Or.inl ⟨rfl, a2, a3⟩⟩
  · exact ⟨0, m', a1, jm_ft f0 d1, Or.inr ⟨rfl, a2⟩⟩
