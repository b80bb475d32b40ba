/-! Ways, the reference's side: joined rows, all formulas; the call. -/
theorem ma_51 {F k a b i q : Nat} {x4 : Int32} {Q P : Int64 → Prop} {B : Prop} {kk : xm_S → Option xm_S} (hF : 100 < F) (hk : k < 28) (ha : a < k) (hb : b < k) (hi60 : i < 60) : ∀ (r j fu : Nat) (m : xm_S), j + r = q → r < fu → mr_G b Q q m → mr_P k (fun x => P x ∨ ∃ t, t < j ∧ x = m.2 41 (60 * a + i) ||| m.2 41 (60 * b + t)) B m →
    ∃ m' : xm_S, mm_addJoined_l51 F (nI k) (nI a) (nI b) x4 (nI i) kk fu (nI j) m = kk m' ∧ mr_P k (fun x => P x ∨ ∃ v, Q v ∧ x = m.2 41 (60 * a + i) ||| v) B m' ∧ mr_f k m m' := by
  intro r
  induction r with
  | zero =>
    intro j fu m hj hfu hG hP
    obtain ⟨fu, rfl⟩ : ∃ g, fu = g + 1 := ⟨fu - 1, by omega⟩
    obtain rfl : j = q := by omega
    obtain ⟨g1, g2, g3⟩ := hG
    refine ⟨m, ?_, mr_iff (fun x => ?_) hP, mr_f0⟩
    · rw [mm_addJoined_l51, xg_nI (by omega) (by decide), nI_clamp (by omega), g1, if_pos (nI_le (Nat.le_refl _) (by omega))]
    · constructor
      · rintro (h | ⟨t, h1, h2⟩)
        · exact Or.inl h
        · exact Or.inr ⟨_, (g3.2 _).mpr ⟨t, h1, rfl⟩, h2⟩
      · rintro (h | ⟨u, h1, h2⟩)
        · exact Or.inl h
        · obtain ⟨t, h3, h4⟩ := (g3.2 _).mp h1
          exact Or.inr ⟨t, h3, by rw [h2, ← h4]⟩
  | succ r ih =>
    intro j fu m hj hfu hG hP
    obtain ⟨fu, rfl⟩ : ∃ g, fu = g + 1 := ⟨fu - 1, by omega⟩
    have hG0 := hG
    obtain ⟨g1, g2, g3⟩ := hG
    rw [mm_addJoined_l51, xg_nI (by omega) (by decide), nI_clamp (by omega), g1, if_neg (nI_ge (by omega) (by omega)), ma_ix, ma_ix, xg_nI (show 60 * a + i < 1680 by omega) (by decide), xg_nI (show 60 * b + j < 1680 by omega) (by decide), nI_clamp (show 60 * a + i < 2 ^ 31 by omega), nI_clamp (show 60 * b + j < 2 ^ 31 by omega), nI_1]
    obtain ⟨m1, e1, e2, e3⟩ := ma_add (F := F) (w := m.2 41 (60 * a + i) ||| m.2 41 (60 * b + j)) hF hk hP
    rw [e1]
    simp only [xc_v]
    have hra : m1.2 41 (60 * a + i) = m.2 41 (60 * a + i) := e3.2.2 a (by omega) i hi60
    have hrow : ∀ t, t < 60 → m1.2 41 (60 * b + t) = m.2 41 (60 * b + t) := fun t ht => e3.2.2 b (by omega) t ht
    obtain ⟨m2, e4, e5, e6⟩ := ih (j + 1) fu m1 (by omega) (by omega) (mr_G_f hG0 e3 (by omega)) (mr_iff (fun x => by
      rw [hra]
      constructor
      · rintro ((h | ⟨t, h1, h2⟩) | h)
        · exact Or.inl h
        · exact Or.inr ⟨t, by omega, by rw [hrow t (by omega)]; exact h2⟩
        · exact Or.inr ⟨j, by omega, by rw [hrow j (by omega)]; exact h⟩
      · rintro (h | ⟨t, h1, h2⟩)
        · exact Or.inl (Or.inl h)
        · rw [hrow t (by omega)] at h2
          by_cases e : t = j
          · subst e; exact Or.inr h2
          · exact Or.inl (Or.inr ⟨t, by omega, h2⟩)) e2)
    rw [hra] at e5
    exact ⟨m2, e4, e5, mr_ft e3 e6⟩
theorem ma_32 {F k a b p q : Nat} {A Q P : Int64 → Prop} {B : Prop} {kk : xm_S → Option xm_S} (hF : 100 < F) (hk : k < 28) (ha : a < k) (hb : b < k) : ∀ (r i fu : Nat) (m : xm_S), i + r = p → r < fu → mr_G a A p m → mr_G b Q q m → mr_P k (fun x => P x ∨ ∃ t, t < i ∧ ∃ v, Q v ∧ x = m.2 41 (60 * a + t) ||| v) B m →
    ∃ m' : xm_S, mm_addJoined_l32 F (nI k) (nI a) (nI b) (1 : Int32) kk fu (nI i) m = kk m' ∧ mr_P k (fun x => P x ∨ ∃ u v, A u ∧ Q v ∧ x = v ||| u) B m' ∧ mr_f k m m' := by
  intro r
  induction r with
  | zero =>
    intro i fu m hi hfu hG hG2 hP
    obtain ⟨fu, rfl⟩ : ∃ g, fu = g + 1 := ⟨fu - 1, by omega⟩
    obtain rfl : i = p := by omega
    obtain ⟨g1, g2, g3⟩ := hG
    refine ⟨m, ?_, mr_iff (fun x => ?_) hP, mr_f0⟩
    · rw [mm_addJoined_l32, xg_nI (by omega) (by decide), nI_clamp (by omega), g1, if_pos (nI_le (Nat.le_refl _) (by omega))]
    · constructor
      · rintro (h | ⟨t, h1, v, h2, h3⟩)
        · exact Or.inl h
        · exact Or.inr ⟨_, v, (g3.2 _).mpr ⟨t, h1, rfl⟩, h2, by rw [h3, Int64.or_comm]⟩
      · rintro (h | ⟨u, v, h1, h2, h3⟩)
        · exact Or.inl h
        · obtain ⟨t, h4, h5⟩ := (g3.2 _).mp h1
          exact Or.inr ⟨t, h4, v, h2, by rw [h3, ← h5, Int64.or_comm]⟩
  | succ r ih =>
    intro i fu m hi hfu hG hG2 hP
    obtain ⟨fu, rfl⟩ : ∃ g, fu = g + 1 := ⟨fu - 1, by omega⟩
    have hG0 := hG
    obtain ⟨g1, g2, g3⟩ := hG
    rw [mm_addJoined_l32, xg_nI (by omega) (by decide), nI_clamp (by omega), g1, if_neg (nI_ge (by omega) (by omega)), if_neg (by decide), nI_1]
    obtain ⟨m1, e1, e2, e3⟩ := ma_51 (F := F) (i := i) (x4 := 1) (kk := fun (m1570 : xm_S) => mm_addJoined_l32 F (nI k) (nI a) (nI b) (1 : Int32) kk fu (nI (i + 1)) m1570) hF hk ha hb (by omega) q 0 F m (by omega) (by have := hG2.2.1; omega) hG2 (mr_iff (fun x => ⟨fun h => Or.inl h, fun h => h.elim id (fun ⟨j, h1, _⟩ => by omega)⟩) hP)
    have e1' : mm_addJoined_l51 F (nI k) (nI a) (nI b) (1 : Int32) (nI i) _ F (0 : Int32) m = _ := e1
    rw [e1']
    have hrow : ∀ t, t < 60 → m1.2 41 (60 * a + t) = m.2 41 (60 * a + t) := fun t ht => e3.2.2 a (by omega) t ht
    obtain ⟨m2, e4, e5, e6⟩ := ih (i + 1) fu m1 (by omega) (by omega) (mr_G_f hG0 e3 (by omega)) (mr_G_f hG2 e3 (by omega)) (mr_iff (fun x => by
      constructor
      · rintro ((h | ⟨t, h1, h2⟩) | h)
        · exact Or.inl h
        · exact Or.inr ⟨t, by omega, by rw [hrow t (by omega)]; exact h2⟩
        · exact Or.inr ⟨i, by omega, by rw [hrow i (by omega)]; exact h⟩
      · rintro (h | ⟨t, h1, h2⟩)
        · exact Or.inl (Or.inl h)
        · rw [hrow t (by omega)] at h2
          by_cases e : t = i
          · subst e; exact Or.inr h2
          · exact Or.inl (Or.inr ⟨t, by omega, h2⟩)) e2)
    exact ⟨m2, e4, e5, mr_ft e3 e6⟩
theorem ma_joined {F k a b : Nat} {A Q P : Int64 → Prop} {B : Prop} {m : xm_S} (hF : 100 < F) (hk : k < 28) (ha : a < k) (hb : b < k) (hA : mr_Q a A B m) (hQ : mr_Q b Q B m) (hP : mr_P k P B m) : ∃ m' : xm_S, mm_addJoined F (nI k) (nI a) (nI b) m = some m' ∧ mr_P k (fun x => P x ∨ ∃ u v, A u ∧ Q v ∧ x = v ||| u) B m' ∧ mr_f k m m' := by
  have hcl : (nI k).toNatClampNeg = k := nI_clamp (by omega)
  have hcla : (nI a).toNatClampNeg = a := nI_clamp (by omega)
  have hclb : (nI b).toNatClampNeg = b := nI_clamp (by omega)
  have hg : ∀ {β : Type} {o : Option β}, xg_n (nI k) 28 o = o := fun {β o} => xg_nI hk (by decide)
  have hga : ∀ {β : Type} {o : Option β}, xg_n (nI a) 28 o = o := fun {β o} => xg_nI (by omega) (by decide)
  have hgb : ∀ {β : Type} {o : Option β}, xg_n (nI b) 28 o = o := fun {β o} => xg_nI (by omega) (by decide)
  unfold mm_addJoined
  simp only [xj_j, xs_m, hg, hga, hgb, hcl, hcla, hclb]
  -- no room
  have bad : B → (∃ z, m.1 42 a = nI z ∧ z ≤ 61) → ∃ m' : xm_S, mm_addJoined_l32 F (nI k) (nI a) (nI b) (0 : Int32) (fun (m1571 : xm_S) => if (0 : Int32) = 0 then some (xw_i m1571 42 k (61 : Int32)) else some (xw_i m1571 42 k (m1571.1 42 k))) F (0 : Int32) m = some m' ∧ mr_P k (fun x => P x ∨ ∃ u v, A u ∧ Q v ∧ x = v ||| u) B m' ∧ mr_f k m m' := by
    intro hB ⟨z, hz, hz2⟩
    obtain ⟨G, rfl⟩ : ∃ G, F = G + 1 := ⟨F - 1, by omega⟩
    obtain ⟨f1, f2⟩ := ma_61 (k := k) (P := fun x => P x ∨ ∃ u v, A u ∧ Q v ∧ x = v ||| u) (m := m) hB
    refine ⟨_, ?_, f1, f2⟩
    rw [mm_addJoined_l32, hga, hcla, hz]
    by_cases y : nI z ≤ (0 : Int32)
    · rw [if_pos y, if_pos rfl]
    · rw [if_neg y, if_pos rfl, if_pos rfl]
  rcases hA with ⟨p, hG⟩ | ⟨h1, h2⟩
  · have hG0 := hG
    obtain ⟨g1, g2, g3⟩ := hG
    rw [g1, if_neg (show ¬ (60 : Int32) < nI p from nI_nlt (a := 60) g2 (by decide))]
    rcases hQ with ⟨q, hG2⟩ | ⟨h1, h2⟩
    · obtain ⟨k1, k2, k3⟩ := hG2
      rw [k1, if_neg (show ¬ (60 : Int32) < nI q from nI_nlt (a := 60) k2 (by decide))]
      obtain ⟨m1, e1, e2, e3⟩ := ma_32 (F := F) (kk := fun (m1571 : xm_S) => if (1 : Int32) = 0 then some (xw_i m1571 42 k (61 : Int32)) else some (xw_i m1571 42 k (m1571.1 42 k))) hF hk ha hb p 0 F m (by omega) (by omega) hG0 ⟨k1, k2, k3⟩ (mr_iff (fun x => ⟨fun h => Or.inl h, fun h => h.elim id (fun ⟨j, h1, _⟩ => by omega)⟩) hP)
      have e1' : mm_addJoined_l32 F (nI k) (nI a) (nI b) (1 : Int32) _ F (0 : Int32) m = _ := e1
      rw [e1', if_neg (by decide)]
      obtain ⟨f1, f2⟩ := ma_same e2
      exact ⟨_, rfl, f1, mr_ft e3 f2⟩
    · rw [h1, if_pos (by decide)]
      exact bad h2 ⟨p, g1, by omega⟩
  · rw [h1, if_pos (by decide)]
    exact bad h2 ⟨61, h1, by decide⟩
theorem mo_w_p {T : bo_T} {PS : Nat → Nat} {l k : Nat} {m : xm_S} (hW : bt_W T) (hP : bt_P T PS m) (hk : k < T.1) : ok_w T PS l k ↔ (sm_P (wp_f T l k) ∧ (4 ≤ T.2.1 k → ok_w T PS l (T.2.2.1 k)) ∧ (bo_two (T.2.1 k) → ok_w T PS l (T.2.2.2 k))) := by
  obtain ⟨w1, w2, w3, w4, w5, w6, -⟩ := hW.2 k hk
  have hbit := (hP k hk).2.2
  have hle : ∀ j, j < T.1 → ∀ p, (PS j).testBit p = true → p ≤ j := fun j hj p hp => by
    rcases Nat.lt_or_ge j p with z | z
    · exfalso
      have := (hP j hj).2.1
      rw [Nat.testBit_lt_two_pow (Nat.lt_of_lt_of_le this (Nat.pow_le_pow_right (by decide) (by omega)))] at hp
      cases hp
    · exact z
  constructor
  · intro h
    refine ⟨h k (Nat.le_refl _) ((hbit k).mpr (Or.inl rfl)), fun q p h1 h2 => ?_, fun q p h1 h2 => ?_⟩
    · exact h p (by have := w4 q; omega) ((hbit p).mpr (Or.inr (Or.inl ⟨q, h2⟩)))
    · exact h p (by have := w5 q; omega) ((hbit p).mpr (Or.inr (Or.inr ⟨q, h2⟩)))
  · rintro ⟨h1, h2, h3⟩ p h4 h5
    rcases (hbit p).mp h5 with e | ⟨q, h⟩ | ⟨q, h⟩
    · rw [e]; exact h1
    · exact h2 q p (hle _ (by have := w4 q; omega) p h) h
    · exact h3 q p (hle _ (by have := w5 q; omega) p h) h
theorem sm_no : ¬ sm_P (fun _ => True) := fun h => by
  have he : en_P (fun x => ∃ i, i < 61 ∧ lN i = x) 61 lN := ⟨fun i j hi hj q => (pk_lEQ (by omega) (by omega)).mp q, fun x => Iff.rfl⟩
  exact en_big he (by decide) (sm_mono (fun _ _ => trivial) h)
theorem mr_no {k : Nat} {P : Int64 → Prop} {m : xm_S} (h : mr_P k (fun x => True ∨ P x) False m) : m.1 42 k = 61 := by
  rcases h with ⟨n, g1, g2, g3⟩ | ⟨g1, g2⟩
  · exact absurd (sm_mono (fun _ _ => Or.inl trivial) (en_sm g3 g2)) sm_no
  · exact g1
theorem mr_61 {k : Nat} {m : xm_S} (h : m.1 42 k = 61) : mr_P k (fun _ => True) False m := Or.inr ⟨h, Or.inl sm_no⟩
theorem ma_all_o {F k a : Nat} {w : Int64} {m : xm_S} (hF : 100 < F) (hk : k < 28) (ha : a < k) (h1 : m.1 42 a = 61) : ∃ m' : xm_S, mm_addAll F (nI k) (nI a) w m = some m' ∧ m'.1 42 k = 61 ∧ mr_f k m m' := by
  have hcl : (nI k).toNatClampNeg = k := nI_clamp (by omega)
  have hcla : (nI a).toNatClampNeg = a := nI_clamp (by omega)
  have hg : ∀ {β : Type} {o : Option β}, xg_n (nI k) 28 o = o := fun {β o} => xg_nI hk (by decide)
  have hga : ∀ {β : Type} {o : Option β}, xg_n (nI a) 28 o = o := fun {β o} => xg_nI (by omega) (by decide)
  unfold mm_addAll
  obtain ⟨G, rfl⟩ : ∃ G, F = G + 1 := ⟨F - 1, by omega⟩
  rw [mm_addAll_l3, hga, hcla, h1, if_neg (by decide), hga, if_pos (by decide)]
  simp only [xj_j, xs_m, hg, hga, hcl, h1]
  rw [if_neg (by decide)]
  exact ⟨_, rfl, xi_s, ⟨fun a ha => xi_k ha, fun j hj => xi_j hj, fun j hj i hi => rfl⟩⟩
theorem ma_joined_o {F k a b : Nat} {m : xm_S} (hF : 100 < F) (hk : k < 28) (ha : a < k) (hb : b < k) (hz : ∃ z, m.1 42 a = nI z ∧ z ≤ 61) (h : m.1 42 a = 61 ∨ m.1 42 b = 61) : ∃ m' : xm_S, mm_addJoined F (nI k) (nI a) (nI b) m = some m' ∧ m'.1 42 k = 61 ∧ mr_f k m m' := by
  have hcl : (nI k).toNatClampNeg = k := nI_clamp (by omega)
  have hcla : (nI a).toNatClampNeg = a := nI_clamp (by omega)
  have hclb : (nI b).toNatClampNeg = b := nI_clamp (by omega)
  have hg : ∀ {β : Type} {o : Option β}, xg_n (nI k) 28 o = o := fun {β o} => xg_nI hk (by decide)
  have hga : ∀ {β : Type} {o : Option β}, xg_n (nI a) 28 o = o := fun {β o} => xg_nI (by omega) (by decide)
  have hgb : ∀ {β : Type} {o : Option β}, xg_n (nI b) 28 o = o := fun {β o} => xg_nI (by omega) (by decide)
  unfold mm_addJoined
  simp only [xj_j, xs_m, hg, hga, hgb, hcl, hcla, hclb]
  have bad : ∃ m' : xm_S, mm_addJoined_l32 F (nI k) (nI a) (nI b) (0 : Int32) (fun (m1571 : xm_S) => if (0 : Int32) = 0 then some (xw_i m1571 42 k (61 : Int32)) else some (xw_i m1571 42 k (m1571.1 42 k))) F (0 : Int32) m = some m' ∧ m'.1 42 k = 61 ∧ mr_f k m m' := by
    obtain ⟨z, hz, hz2⟩ := hz
    obtain ⟨G, rfl⟩ : ∃ G, F = G + 1 := ⟨F - 1, by omega⟩
    refine ⟨xw_i m 42 k 61, ?_, xi_s, ⟨fun a ha => xi_k ha, fun j hj => xi_j hj, fun j hj i hi => rfl⟩⟩
    rw [mm_addJoined_l32, hga, hcla, hz]
    by_cases y : nI z ≤ (0 : Int32)
    · rw [if_pos y, if_pos rfl]
    · rw [if_neg y, if_pos rfl, if_pos rfl]
  by_cases y : (60 : Int32) < m.1 42 a
  · rw [if_pos y]; exact bad
  · rw [if_neg y]
    rcases h with h | h
    · rw [h] at y; exact absurd (by decide) y
    · rw [h, if_pos (by decide)]; exact bad
-- how the row of k stands
def mv_w (T : bo_T) (PS : Nat → Nat) (l k : Nat) (m : xm_S) : Prop := (ok_w T PS l k ∧ ∃ q, mr_G k (wp_f T l k) q m) ∨ (¬ ok_w T PS l k ∧ m.1 42 k = 61)
theorem mv_f {T : bo_T} {PS : Nat → Nat} {l j k : Nat} {m m' : xm_S} (h : mv_w T PS l j m) (g : mr_f k m m') (hj : j ≠ k) : mv_w T PS l j m' := by
  rcases h with ⟨h1, q, h⟩ | ⟨h1, h2⟩
  · exact Or.inl ⟨h1, q, mr_G_f h g hj⟩
  · exact Or.inr ⟨h1, by rw [g.2.1 j hj, h2]⟩
theorem mv_z {T : bo_T} {PS : Nat → Nat} {l j : Nat} {m : xm_S} (h : mv_w T PS l j m) : ∃ z, m.1 42 j = nI z ∧ z ≤ 61 := by
  rcases h with ⟨h1, q, h⟩ | ⟨h1, h2⟩
  · exact ⟨q, h.1, by have := h.2.1; omega⟩
  · exact ⟨61, h2, Nat.le_refl _⟩
theorem ma_st {F k l p : Nat} {w : Int64} {P : Int64 → Prop} {T : bo_T} {PS : Nat → Nat} {m : xm_S} (hF : 100 < F) (hk : k < 28) (hp : p < k) (hv : mv_w T PS l p m) (hP : mr_P k P False m) : ∃ m' : xm_S, mm_addAll F (nI k) (nI p) w m = some m' ∧ mr_f k m m' ∧ ((ok_w T PS l p ∧ mr_P k (fun x => P x ∨ ∃ u, wp_f T l p u ∧ x = u ||| w) False m') ∨ (¬ ok_w T PS l p ∧ m'.1 42 k = 61)) ∧ (m.1 42 k = 61 → m'.1 42 k = 61) := by
  rcases hv with ⟨h1, q, h2⟩ | ⟨h1, h2⟩
  · obtain ⟨m', e1, e2, e3⟩ := ma_all (w := w) hF hk hp (Or.inl ⟨q, h2⟩) hP
    refine ⟨m', e1, e3, Or.inl ⟨h1, e2⟩, fun h => ?_⟩
    obtain ⟨m2, f1, f2, f3⟩ := ma_all (w := w) hF hk hp (Or.inl ⟨q, h2⟩) (mr_61 h)
    rw [e1] at f1
    cases f1
    exact mr_no f2
  · obtain ⟨m', e1, e2, e3⟩ := ma_all_o (F := F) (w := w) hF hk hp h2
    exact ⟨m', e1, e3, Or.inr ⟨h1, e2⟩, fun _ => e2⟩
theorem mw_of {F k l : Nat} {T : bo_T} {PS : Nat → Nat} {m : xm_S} (hF : 100 < F) (hW : bt_W T) (hM : bt_M T m) {mP : xm_S} (hP : bt_P T PS mP) (hk : k < T.1) (hl : l < 16) (hv : ∀ j, j < k → mv_w T PS l j m) :
    ∃ m' : xm_S, mm_waysOf F (nI k) (nI l) m = some m' ∧ mv_w T PS l k m' ∧ mr_f k m m' := by
  have h28 := hW.1
  obtain ⟨w1, w2, w3, w4, w5, w6, -⟩ := hW.2 k hk
  have hok := mo_w_p (l := l) hW hP hk
  have hk28 : k < 28 := by omega
  have hcl : (nI k).toNatClampNeg = k := nI_clamp (by omega)
  have hg : ∀ {β : Type} {o : Option β}, xg_n (nI k) 28 o = o := fun {β o} => xg_nI hk28 (by decide)
  have g0 : mr_f k m (xw_i m 42 k 0) := ⟨fun a ha => xi_k ha, fun j hj => xi_j hj, fun j hj i hi => rfl⟩
  have s0 : mr_P k (fun _ => False) False (xw_i m 42 k 0) := Or.inl ⟨0, xi_s, by decide, ⟨fun i j hi => by omega, fun x => ⟨fun h => h.elim, fun ⟨i, h, _⟩ => by omega⟩⟩⟩
  obtain ⟨c1, c2, c3⟩ := hM.2 k hk
  have d1 : (xw_i m 42 k 0).1 36 k = nI (T.2.1 k) := by rw [xi_k (by decide), c1]
  have d2 : (xw_i m 42 k 0).1 37 k = nI (T.2.2.1 k) := by rw [xi_k (by decide), c2]
  have d3 : (xw_i m 42 k 0).1 38 k = nI (T.2.2.2 k) := by rw [xi_k (by decide), c3]
  have hv0 : ∀ j, j < k → mv_w T PS l j (xw_i m 42 k 0) := fun j hj => mv_f (hv j hj) g0 (by omega)
  have fin : ∀ (P : Int64 → Prop) (m' : xm_S), mr_P k P False m' → (∀ x, P x ↔ wp_f T l k x) → (4 ≤ T.2.1 k → ok_w T PS l (T.2.2.1 k)) → (bo_two (T.2.1 k) → ok_w T PS l (T.2.2.2 k)) → mv_w T PS l k m' := by
    intro P m' h1 h2 h3 h4
    rcases mr_iff h2 h1 with ⟨n, y⟩ | ⟨y1, y2⟩
    · exact Or.inl ⟨hok.mpr ⟨en_sm y.2.2 y.2.1, h3, h4⟩, n, y⟩
    · exact Or.inr ⟨fun q => (y2.resolve_right id) (hok.mp q).1, y1⟩
  have finA : ∀ m' : xm_S, m'.1 42 k = 61 → 4 ≤ T.2.1 k → ¬ ok_w T PS l (T.2.2.1 k) → mv_w T PS l k m' := fun m' h1 h2 h3 => Or.inr ⟨fun q => h3 ((hok.mp q).2.1 h2), h1⟩
  have finB : ∀ m' : xm_S, m'.1 42 k = 61 → bo_two (T.2.1 k) → ¬ ok_w T PS l (T.2.2.2 k) → mv_w T PS l k m' := fun m' h1 h2 h3 => Or.inr ⟨fun q => h3 ((hok.mp q).2.2 h2), h1⟩
  rw [wp_f_e hW hk] at fin
  unfold mm_waysOf
  simp only [xs_m, hg, hcl, d1, d2, d3]
  generalize hm0 : xw_i m 42 k 0 = m0 at *
  have hcase : T.2.1 k = 0 ∨ T.2.1 k = 1 ∨ T.2.1 k = 2 ∨ T.2.1 k = 3 ∨ T.2.1 k = 4 ∨ T.2.1 k = 5 ∨ T.2.1 k = 6 ∨ T.2.1 k = 7 ∨ T.2.1 k = 8 := by omega
  have add0 : ∀ (w : Int64) , (∀ x, wp_s T l (wp_f T l) k x ↔ x = w) → T.2.1 k < 4 → ∃ m' : xm_S, (xc_v (mm_addWay F (nI k) w m0) fun m1 => some m1) = some m' ∧ mv_w T PS l k m' ∧ mr_f k m m' := fun w hQ h4 => by
    obtain ⟨m2, f1, f2, f3⟩ := ma_add (w := w) hF hk28 s0
    rw [f1]
    exact ⟨m2, rfl, fin _ _ f2 (fun x => by rw [hQ x]; simp) (fun q => by omega) (fun q => by unfold bo_two at q; omega), mr_ft g0 f3⟩
  rcases hcase with h | h | h | h | h | h | h | h | h
  · simp (decide := true) only [h, if_true, if_false]
    exact add0 0 (fun x => by unfold wp_s; simp [h]) (by omega)
  · simp (decide := true) only [h, if_true, if_false]
    exact ⟨m0, rfl, fin _ _ s0 (fun x => by unfold wp_s; simp [h]) (fun q => by omega) (fun q => by unfold bo_two at q; omega), g0⟩
  · simp (decide := true) only [h, if_true, if_false]
    rw [nb_bit (by omega) (by have := w3 (Or.inl h); omega)]
    by_cases z : l / 2 ^ T.2.2.1 k % 2 = 1
    · rw [if_pos (by rw [z]; rfl)]
      exact add0 0 (fun x => by unfold wp_s; simp [h, z]) (by omega)
    · have z0 : l / 2 ^ T.2.2.1 k % 2 = 0 := by omega
      rw [if_neg (by rw [z0]; decide)]
      exact ⟨m0, rfl, fin _ _ s0 (fun x => by unfold wp_s; simp [h, z0]) (fun q => by omega) (fun q => by unfold bo_two at q; omega), g0⟩
  · simp (decide := true) only [h, if_true, if_false]
    rw [nb_bit (by omega) (by have := w3 (Or.inr h); omega)]
    by_cases z : l / 2 ^ T.2.2.1 k % 2 = 0
    · rw [if_pos (by rw [z]; rfl)]
      exact add0 0 (fun x => by unfold wp_s; simp [h, z]) (by omega)
    · have z0 : l / 2 ^ T.2.2.1 k % 2 = 1 := by omega
      rw [if_neg (by rw [z0]; decide)]
      exact ⟨m0, rfl, fin _ _ s0 (fun x => by unfold wp_s; simp [h, z0]) (fun q => by omega) (fun q => by unfold bo_two at q; omega), g0⟩
  · have ha := w4 (by omega)
    have hb := w5 (Or.inl h)
    simp (decide := true) only [h, if_true, if_false]
    rcases hv0 _ ha with ⟨va, qa, ga⟩ | ⟨va, ga⟩
    · rcases hv0 _ hb with ⟨vb, qb, gb⟩ | ⟨vb, gb⟩
      · obtain ⟨m2, f1, f2, f3⟩ := ma_joined hF hk28 ha hb (Or.inl ⟨qa, ga⟩) (Or.inl ⟨qb, gb⟩) s0
        rw [f1]
        exact ⟨m2, rfl, fin _ _ f2 (fun x => by unfold wp_s; simp [h]) (fun _ => va) (fun _ => vb), mr_ft g0 f3⟩
      · obtain ⟨m2, f1, f2, f3⟩ := ma_joined_o hF hk28 ha hb (mv_z (hv0 _ ha)) (Or.inr gb)
        rw [f1]
        exact ⟨m2, rfl, finB _ f2 (Or.inl h) vb, mr_ft g0 f3⟩
    · obtain ⟨m2, f1, f2, f3⟩ := ma_joined_o hF hk28 ha hb (mv_z (hv0 _ ha)) (Or.inl ga)
      rw [f1]
      exact ⟨m2, rfl, finA _ f2 (by omega) va, mr_ft g0 f3⟩
  · have ha := w4 (by omega)
    have hb := w5 (Or.inr (Or.inl h))
    simp (decide := true) only [h, if_true, if_false]
    obtain ⟨m1, f1, f2, f3, -⟩ := ma_st (w := 0) hF hk28 ha (hv0 _ ha) s0
    rw [f1]
    simp only [xc_v]
    have hvb := mv_f (hv0 _ hb) f2 (by omega)
    rcases f3 with ⟨va, f3⟩ | ⟨va, f3⟩
    · obtain ⟨m2, k1, k2, k3, k4⟩ := ma_st (w := 0) hF hk28 hb hvb f3
      rw [k1]
      rcases k3 with ⟨vb, k3⟩ | ⟨vb, k3⟩
      · exact ⟨m2, rfl, fin _ _ k3 (fun x => by unfold wp_s; simp [h]) (fun _ => va) (fun _ => vb), mr_ft g0 (mr_ft f2 k2)⟩
      · exact ⟨m2, rfl, finB _ k3 (Or.inr (Or.inl h)) vb, mr_ft g0 (mr_ft f2 k2)⟩
    · obtain ⟨m2, k1, k2, k3, k4⟩ := ma_st (w := 0) hF hk28 hb hvb (mr_61 f3)
      rw [k1]
      exact ⟨m2, rfl, finA _ (k4 f3) (by omega) va, mr_ft g0 (mr_ft f2 k2)⟩
  · have ha := w4 (by omega)
    have hga : ∀ {β : Type} {o : Option β}, xg_n (nI (T.2.2.1 k)) 28 o = o := fun {β o} => xg_nI (by omega) (by decide)
    simp (decide := true) only [h, if_true, if_false, hga, nI_clamp (show T.2.2.1 k < 2 ^ 31 by omega), xj_j]
    obtain ⟨m1, f1, f2, f3⟩ := ma_add (F := F) (w := bl_n (T.2.2.1 k)) hF hk28 s0
    have f1' : mm_addWay F (nI k) ((1 : Int64) <<< ((nI (T.2.2.1 k)).toInt64 &&& 63)) m0 = some m1 := f1
    rw [f1']
    simp only [xc_v]
    rcases mv_f (hv0 _ ha) f3 (by omega) with ⟨va, qa, ga⟩ | ⟨va, ga⟩
    · rw [if_pos (by rw [ga.1]; exact nI_le (b := 60) ga.2.1 (by decide))]
      obtain ⟨k1, k2⟩ := ma_same f2
      exact ⟨_, rfl, fin _ _ k1 (fun x => by unfold wp_s; simp [h]) (fun _ => va) (fun q => by unfold bo_two at q; omega), mr_ft g0 (mr_ft f3 k2)⟩
    · rw [if_neg (by rw [ga]; decide)]
      exact ⟨_, rfl, finA _ xi_s (by omega) va, mr_ft g0 (mr_ft f3 ⟨fun a ha => xi_k ha, fun j hj => xi_j hj, fun j hj i hi => rfl⟩)⟩
  · have ha := w4 (by omega)
    have t2 : bo_two (T.2.1 k) := Or.inr (Or.inr (Or.inl h))
    have hb := w5 t2
    simp (decide := true) only [h, if_true, if_false]
    obtain ⟨m1, f1, f2, f3, -⟩ := ma_st (w := 0) hF hk28 hb (hv0 _ hb) s0
    rw [f1]
    simp only [xc_v]
    have hva := mv_f (hv0 _ ha) f2 (by omega)
    rw [show ((1 : Int64) <<< ((nI k).toInt64 &&& 63)) ||| ((1 : Int64) <<< ((nI k + (28 : Int32)).toInt64 &&& 63)) = bl_n k ||| bl_n (28 + k) by unfold bl_n; rw [show nI k + (28 : Int32) = nI (28 + k) from by rw [Nat.add_comm 28 k]; exact nI_add k 28]]
    rcases f3 with ⟨vb, f3⟩ | ⟨vb, f3⟩
    · obtain ⟨m2, k1, k2, k3, k4⟩ := ma_st (w := bl_n k ||| bl_n (28 + k)) hF hk28 ha hva f3
      rw [k1]
      rcases k3 with ⟨va, k3⟩ | ⟨va, k3⟩
      · exact ⟨m2, rfl, fin _ _ k3 (fun x => by unfold wp_s; simp [h]) (fun _ => va) (fun _ => vb), mr_ft g0 (mr_ft f2 k2)⟩
      · exact ⟨m2, rfl, finA _ k3 (by omega) va, mr_ft g0 (mr_ft f2 k2)⟩
    · obtain ⟨m2, k1, k2, k3, k4⟩ := ma_st (w := bl_n k ||| bl_n (28 + k)) hF hk28 ha hva (mr_61 f3)
      rw [k1]
      exact ⟨m2, rfl, finB _ (k4 f3) t2 vb, mr_ft g0 (mr_ft f2 k2)⟩
  · have ha := w4 (by omega)
    have t2 : bo_two (T.2.1 k) := Or.inr (Or.inr (Or.inr h))
    have hb := w5 t2
    simp (decide := true) only [h, if_true, if_false]
    rw [show ((1 : Int64) <<< ((nI k).toInt64 &&& 63)) = bl_n k from rfl]
    rcases hv0 _ ha with ⟨va, qa, ga⟩ | ⟨va, ga⟩
    · rcases hv0 _ hb with ⟨vb, qb, gb⟩ | ⟨vb, gb⟩
      · obtain ⟨m1, f1, f2, f3⟩ := ma_joined hF hk28 hb ha (Or.inl ⟨qb, gb⟩) (Or.inl ⟨qa, ga⟩) s0
        rw [f1]
        simp only [xc_v]
        obtain ⟨m2, k1, k2, k3, k4⟩ := ma_st (w := bl_n k) hF hk28 hb (mv_f (hv0 _ hb) f3 (by omega)) f2
        rw [k1]
        rcases k3 with ⟨-, k3⟩ | ⟨v, k3⟩
        · exact ⟨m2, rfl, fin _ _ k3 (fun x => by unfold wp_s; simp [h]) (fun _ => va) (fun _ => vb), mr_ft g0 (mr_ft f3 k2)⟩
        · exact absurd vb v
      · obtain ⟨m1, f1, f2, f3⟩ := ma_joined_o hF hk28 hb ha (mv_z (hv0 _ hb)) (Or.inl gb)
        rw [f1]
        simp only [xc_v]
        obtain ⟨m2, k1, k2, k3, k4⟩ := ma_st (w := bl_n k) hF hk28 hb (mv_f (hv0 _ hb) f3 (by omega)) (mr_61 f2)
        rw [k1]
        exact ⟨m2, rfl, finB _ (k4 f2) t2 vb, mr_ft g0 (mr_ft f3 k2)⟩
    · obtain ⟨m1, f1, f2, f3⟩ := ma_joined_o hF hk28 hb ha (mv_z (hv0 _ hb)) (Or.inr ga)
      rw [f1]
      simp only [xc_v]
      obtain ⟨m2, k1, k2, k3, k4⟩ := ma_st (w := bl_n k) hF hk28 hb (mv_f (hv0 _ hb) f3 (by omega)) (mr_61 f2)
      rw [k1]
      exact ⟨m2, rfl, finA _ (k4 f2) (by omega) va, mr_ft g0 (mr_ft f3 k2)⟩
theorem mw_up {F l f : Nat} {T : bo_T} {PS : Nat → Nat} {mP : xm_S} {kk : xm_S → Option xm_S} (hF : 100 < F) (hW : bt_W T) (hP : bt_P T PS mP) (hf : f < T.1) (hl : l < 16) : ∀ (r i fu : Nat) (m : xm_S), i + r = f + 1 → r < fu → bt_M T m → (∀ j, j < i → mv_w T PS l j m) → ∃ m' : xm_S, mm_waysUpTo_l2 F (nI f) (nI l) kk fu (nI i) m = kk m' ∧ ∀ j, j ≤ f → mv_w T PS l j m' := by
  have h28 := hW.1
  intro r
  induction r with
  | zero =>
    intro i fu m hi hfu hM hv
    obtain ⟨fu, rfl⟩ : ∃ g, fu = g + 1 := ⟨fu - 1, by omega⟩
    refine ⟨m, ?_, fun j hj => hv j (by omega)⟩
    rw [mm_waysUpTo_l2, if_pos (nI_lt (by omega) (by omega))]
  | succ r ih =>
    intro i fu m hi hfu hM hv
    obtain ⟨fu, rfl⟩ : ∃ g, fu = g + 1 := ⟨fu - 1, by omega⟩
    rw [mm_waysUpTo_l2, if_neg (nI_nlt (by omega) (by omega))]
    obtain ⟨m1, e1, e2, e3⟩ := mw_of hF hW hM hP (show i < T.1 by omega) hl hv
    have g := mm_waysOf_fr e1
    rw [e1]
    simp only [xc_v]
    rw [nI_1]
    exact ih (i + 1) fu m1 (by omega) (by omega) (bt_M_f hM g rfl rfl rfl rfl) (fun j hj => by
      by_cases e : j = i
      · subst e; exact e2
      · exact mv_f (hv j (by omega)) e3 e)
theorem mw_upto {F l f : Nat} {T : bo_T} {PS : Nat → Nat} {m mP : xm_S} (hF : 100 < F) (hW : bt_W T) (hP : bt_P T PS mP) (hf : f < T.1) (hl : l < 16) (hM : bt_M T m) : ∃ m' : xm_S, mm_waysUpTo F (nI f) (nI l) m = some m' ∧ ∀ j, j ≤ f → mv_w T PS l j m' := by
  have h28 := hW.1
  exact mw_up (kk := fun m => some m) hF hW hP hf hl (f + 1) 0 F m (by omega) (by omega) hM (fun j hj => by omega)
theorem wy_call {F N : Nat} {T : bo_T} {PS : Nat → Nat} {m : xm_S} (v x : Int32) (hF : 100 < F) (hW : bt_W T) (hC : bt_C T m) (hM : bt_M T m) (hP : bt_P T PS m) (hI : kt_I T N m) :
    ∃ (r : Int32) (N' : Nat) (m1 m2 : xm_S), mk_ways F N v x m = some (r, N', m1) ∧ mm_ways F v x m1 = some (r, m2) ∧ N ≤ N' ∧ kt_I T N' m1 := by
  have h28 := hW.1
  by_cases hv0 : v < 0
  · refine ⟨-1, N, m, m, ?_, ?_, Nat.le_refl _, hI⟩
    · unfold mk_ways bk_knows; rw [if_pos hv0, if_pos rfl]
    · unfold mm_ways mm_isFormula; rw [if_pos hv0, if_pos rfl]
  obtain ⟨f, hf, rfl⟩ := nI_of hv0
  by_cases hfT : f < T.1
  · have k1 : ¬ bk_knows (nI f) m = 0 := by unfold bk_knows; rw [hC.1, if_neg hv0, if_neg (nI_ge hfT (by omega))]; decide
    have k2 : ∀ m' : xm_S, m'.1 35 0 = nI T.1 → ¬ mm_isFormula (nI f) m' = 0 := fun m' e => by unfold mm_isFormula; rw [e, if_neg hv0, if_neg (nI_ge hfT (by omega))]; decide
    by_cases hx0 : x < 0
    · refine ⟨-1, N, m, m, ?_, ?_, Nat.le_refl _, hI⟩
      · unfold mk_ways; rw [if_neg k1, if_pos hx0]
      · unfold mm_ways; rw [if_neg (k2 m hM.1), if_pos hx0]
    obtain ⟨l, hl, rfl⟩ := nI_of hx0
    by_cases hl16 : l < 16
    · obtain ⟨b, N', m1, e1, e2, e3, -, e4⟩ := wt_learns (F := F) hF hW hfT hl16 hC hP hI
      have g1 := wt_learn_fr e1
      have hM1 := bt_M_f hM g1 rfl rfl rfl rfl
      obtain ⟨m2, f1, f2⟩ := mw_upto (F := F) hF hW hP hfT hl16 hM1
      have hself : (PS f).testBit f = true := ((hP f hfT).2.2 f).mpr (Or.inl rfl)
      have hcl : (nI f).toNatClampNeg = f := nI_clamp hf
      have hg : ∀ {β : Type} {o : Option β}, xg_n (nI f) 28 o = o := fun {β o} => xg_nI (by omega) (by decide)
      have em : mm_ways F (nI f) (nI l) m1 = if m2.1 42 f ≤ (60 : Int32) then some (m2.1 42 f, m2) else some ((-2 : Int32), m2) := by
        unfold mm_ways
        rw [if_neg (k2 m1 hM1.1), if_neg hx0, if_pos (show nI l ≤ (15 : Int32) from nI_le (b := 15) (by omega) (by decide)), f1]
        simp only [xc_v, hg, hcl]
      have ec : mk_ways F N (nI f) (nI l) m = if b = 0 then some ((-2 : Int32), N', m1) else some (m1.1 12 (16 * f + l), N', m1) := by
        unfold mk_ways
        rw [if_neg k1, if_neg hx0, if_pos (show nI l < (16 : Int32) from nI_lt (b := 16) hl16 (by decide)), e1]
        simp only [xc_a, Nat.ble_eq_true_of_le e2, cond_true, wt_count, wc_n, xg_nI (show 16 * f + l < 448 by omega) (show 448 < 2 ^ 31 by decide), nI_clamp (show 16 * f + l < 2 ^ 31 by omega), xc_s]
      rcases e4 with ⟨b1, b2, b3⟩ | ⟨b1, b2⟩
      · obtain ⟨c1, c2⟩ := b3 f (Nat.le_refl _) hself
        obtain ⟨-, q, s, hG⟩ := kt_I_g e3 (by omega) hl16 c1 c2
        rcases f2 f (Nat.le_refl _) with ⟨-, q', hG'⟩ | ⟨z, -⟩
        · have eq : q = q' := en_eq hG.2.2.2.2 hG'.2.2
          refine ⟨nI q, N', m1, m2, ?_, ?_, e2, e3⟩
          · rw [ec, if_neg (by rw [b1]; decide), hG.1]
          · rw [em, hG'.1, if_pos (show nI q' ≤ (60 : Int32) from nI_le (b := 60) hG'.2.1 (by decide)), eq]
        · exact absurd b2 z
      · rcases f2 f (Nat.le_refl _) with ⟨z, -⟩ | ⟨-, z⟩
        · exact absurd z b2
        · refine ⟨-2, N', m1, m2, ?_, ?_, e2, e3⟩
          · rw [ec, if_pos b1]
          · rw [em, z, if_neg (by decide)]
    · refine ⟨-1, N, m, m, ?_, ?_, Nat.le_refl _, hI⟩
      · unfold mk_ways; rw [if_neg k1, if_neg hx0, if_neg (show ¬ nI l < (16 : Int32) from nI_nlt (b := 16) (by omega) hl)]
      · unfold mm_ways; rw [if_neg (k2 m hM.1), if_neg hx0, if_neg (show ¬ nI l ≤ (15 : Int32) from nI_ge (a := 15) (by omega) hl)]
  · have hle : nI T.1 ≤ nI f := nI_le (by omega) hf
    refine ⟨-1, N, m, m, ?_, ?_, Nat.le_refl _, hI⟩
    · unfold mk_ways bk_knows; rw [hC.1, if_neg hv0, if_pos hle, if_pos rfl]
    · unfold mm_ways mm_isFormula; rw [hM.1, if_neg hv0, if_pos hle, if_pos rfl]
