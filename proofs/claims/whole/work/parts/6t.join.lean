/-! The ways of a set of formulas: joined, both sides. -/
def jp_w (T : bo_T) (l S : Nat) : Nat → Int64 → Prop
  | 0 => fun x => x = 0
  | k + 1 => if S.testBit k then (fun x => ∃ u v, jp_w T l S k u ∧ wp_f T l k v ∧ x = v ||| u) else jp_w T l S k
def jo_w (T : bo_T) (l S k : Nat) : Prop := ∀ j, j ≤ k → sm_P (jp_w T l S j)
theorem jp_0 {T : bo_T} {l S : Nat} : sm_P (jp_w T l S 0) := ⟨1, fun _ => 0, by decide, fun x hx => ⟨0, by decide, hx.symm⟩⟩
theorem jp_hi {T : bo_T} {l S k : Nat} (h : S < 2 ^ k) : ∀ d, jp_w T l S (k + d) = jp_w T l S k
  | 0 => rfl
  | d + 1 => by
    have e : jp_w T l S (k + d + 1) = if S.testBit (k + d) then (fun x => ∃ u v, jp_w T l S (k + d) u ∧ wp_f T l (k + d) v ∧ x = v ||| u) else jp_w T l S (k + d) := rfl
    have hb : S.testBit (k + d) = false := Nat.testBit_lt_two_pow (Nat.lt_of_lt_of_le h (Nat.pow_le_pow_right (by decide) (by omega)))
    show jp_w T l S (k + d + 1) = _
    rw [e, hb]
    exact jp_hi h d
theorem jp_1 {T : bo_T} {l S k : Nat} (h : S.testBit k = true) : jp_w T l S (k + 1) = fun x => ∃ u v, jp_w T l S k u ∧ wp_f T l k v ∧ x = v ||| u := by
  have e : jp_w T l S (k + 1) = if S.testBit k then (fun x => ∃ u v, jp_w T l S k u ∧ wp_f T l k v ∧ x = v ||| u) else jp_w T l S k := rfl
  rw [e, if_pos h]
theorem jp_n {T : bo_T} {l S k : Nat} (h : S.testBit k = false) : jp_w T l S (k + 1) = jp_w T l S k := by
  have e : jp_w T l S (k + 1) = if S.testBit k then (fun x => ∃ u v, jp_w T l S k u ∧ wp_f T l k v ∧ x = v ||| u) else jp_w T l S k := rfl
  rw [e, if_neg (by rw [h]; decide)]
def cw_2 (a b : Nat) : Prop := (a = 16 ∧ b = 18) ∨ (a = 18 ∧ b = 16)
section JOINC
variable {F N : Nat} {T : bo_T} {l S : Nat}
theorem jc_64 {a b k n q s : Nat} {x1 : Int32} {P Q : Int64 → Prop} {kk : xm_S → Option (Nat × xm_S)} (hF : 100 < F) (hN : N ≤ 6) (hab : cw_2 a b) (hk : k < 28) (hl : l < 16) : ∀ (r i fu : Nat) (m : xm_S), i + r = n → r < fu → cw_G a P n m → kt_G N k l Q q s m → cw_P b (fun x => ∃ t, t < i ∧ ∃ v, Q v ∧ x = v ||| m.2 (a + 1) t) m →
    ∃ m' : xm_S, wt_waysOfSet_l64 F N x1 (nI l) a b (nI k) kk fu (nI i) m = kk m' ∧ cw_P b (fun x => ∃ u v, P u ∧ Q v ∧ x = v ||| u) m' ∧ cw_f b m m' := by
  have hcb : cw_c b := by unfold cw_2 at hab; unfold cw_c; omega
  have hne : a ≠ b ∧ a ≠ b + 1 ∧ a + 1 ≠ b ∧ a + 1 ≠ b + 1 := by unfold cw_2 at hab; omega
  intro r
  induction r with
  | zero =>
    intro i fu m hi hfu hG hK hP
    obtain ⟨fu, rfl⟩ : ∃ g, fu = g + 1 := ⟨fu - 1, by omega⟩
    obtain rfl : i = n := by omega
    obtain ⟨g1, g2, g3, g4, g5⟩ := hG
    refine ⟨m, ?_, cw_iff (fun x => ?_) hP, cw_f0⟩
    · rw [wt_waysOfSet_l64, g2, if_pos (nI_le (Nat.le_refl _) (by omega))]
    · constructor
      · rintro ⟨t, h1, v, h2, h3⟩
        exact ⟨_, v, (g5 _).mpr ⟨t, h1, rfl⟩, h2, h3⟩
      · rintro ⟨u, v, h1, h2, h3⟩
        obtain ⟨t, h4, h5⟩ := (g5 _).mp h1
        exact ⟨t, h4, v, h2, by rw [h3, ← h5]⟩
  | succ r ih =>
    intro i fu m hi hfu hG hK hP
    obtain ⟨fu, rfl⟩ : ∃ g, fu = g + 1 := ⟨fu - 1, by omega⟩
    have hG0 := hG
    obtain ⟨g1, g2, g3, g4, g5⟩ := hG
    rw [wt_waysOfSet_l64, g2, if_neg (nI_ge (by omega) (by omega)), nI_clamp (by omega), xg_nI (by omega) (by decide), nI_1]
    by_cases z : m.1 b 2 = 0
    · rw [if_pos z]
      obtain ⟨m1, e1, e2, e3⟩ := wt_each (F := F) (w := m.2 (a + 1) i) hF hN hcb hk hl hK hP
      rw [e1]
      simp only [xc_v]
      have hrow := (e3 (a + 1) hne.2.2.1 hne.2.2.2).2
      have ha1 := (e3 a hne.1 hne.2.1).1
      obtain ⟨m2, e4, e5, e6⟩ := ih (i + 1) fu m1 (by omega) (by omega) (by
        refine ⟨by rw [ha1, g1], by rw [ha1, g2], g3, ?_, ?_⟩
        · rw [hrow]; exact g4
        · rw [hrow]; exact g5) (kt_G_f hcb hK e3) (cw_iff (fun x => by
        rw [hrow]
        constructor
        · rintro (⟨t, h1, h2⟩ | h)
          · exact ⟨t, by omega, h2⟩
          · exact ⟨i, by omega, h⟩
        · rintro ⟨t, h1, h2⟩
          by_cases e : t = i
          · subst e; exact Or.inr h2
          · exact Or.inl ⟨t, by omega, h2⟩) e2)
      exact ⟨m2, e4, e5, cw_ft e3 e6⟩
    · rw [if_neg z]
      refine ⟨m, rfl, ?_, cw_f0⟩
      rcases hP with ⟨n', hG'⟩ | ⟨h1, h2⟩
      · exact absurd hG'.1 z
      · refine Or.inr ⟨h1, fun q => h2 (sm_mono (fun x hx => ?_) q)⟩
        obtain ⟨t, h3, v, h4, h5⟩ := hx
        exact ⟨_, v, (g5 _).mpr ⟨t, by omega, rfl⟩, h4, h5⟩
theorem jc_23 {kk : Nat → xm_S → Option (Nat × xm_S)} (hF : 100 < F) (hN : N ≤ 6) (hl : l < 16) (hS : S < 2 ^ 28) : ∀ (r k fu a b : Nat) (m : xm_S), k + r = 28 → r < fu → cw_2 a b → (∀ j, S.testBit j = true → ∃ q s, kt_G N j l (wp_f T l j) q s m) → (∀ j, j < k → sm_P (jp_w T l S j)) → cw_P a (jp_w T l S k) m →
    ∃ (c : Nat) (m' : xm_S), (c = 16 ∨ c = 18) ∧ wt_waysOfSet_l23 F N (nI S) (nI l) kk fu a b (nI k) m = kk c m' ∧ ((jo_w T l S 28 ∧ ∃ n, cw_G c (jp_w T l S 28) n m') ∨ (¬ jo_w T l S 28 ∧ m'.1 c 2 = 1)) := by
  have hS31 : S < 2 ^ 31 := Nat.lt_of_lt_of_le hS (by decide)
  intro r
  induction r with
  | zero =>
    intro k fu a b m hk hfu hab hrow hsm hP
    obtain ⟨fu, rfl⟩ : ∃ g, fu = g + 1 := ⟨fu - 1, by omega⟩
    obtain rfl : k = 28 := by omega
    refine ⟨a, m, by unfold cw_2 at hab; omega, ?_, ?_⟩
    · rw [wt_waysOfSet_l23, if_pos (show (28 : Int32) ≤ nI 28 by decide)]
    · rcases hP with ⟨n, hG⟩ | ⟨h1, h2⟩
      · refine Or.inl ⟨fun j hj => ?_, n, hG⟩
        by_cases e : j = 28
        · subst e; exact en_sm (cw_en hG.2.2.2.1 hG.2.2.2.2) hG.2.2.1
        · exact hsm j (by omega)
      · exact Or.inr ⟨fun q => h2 (q 28 (Nat.le_refl _)), h1⟩
  | succ r ih =>
    intro k fu a b m hk hfu hab hrow hsm hP
    obtain ⟨fu, rfl⟩ : ∃ g, fu = g + 1 := ⟨fu - 1, by omega⟩
    have hca : a = 16 ∨ a = 18 := by unfold cw_2 at hab; omega
    rw [wt_waysOfSet_l23, if_neg (show ¬ (28 : Int32) ≤ nI k from nI_ge (b := 28) (by omega) (by decide)), nb_bit hS31 (by omega), nb_shr hS31 (by omega), nI_1]
    have hsk : ∀ n, cw_G a (jp_w T l S k) n m → sm_P (jp_w T l S k) := fun n hG => en_sm (cw_en hG.2.2.2.1 hG.2.2.2.2) hG.2.2.1
    by_cases z : S / 2 ^ k = 0
    · rw [if_pos (by rw [z]; rfl)]
      have hlt : S < 2 ^ k := by
        rcases Nat.lt_or_ge S (2 ^ k) with y | y
        · exact y
        · have := Nat.div_pos y (Nat.two_pow_pos k); omega
      have hall : ∀ j, k ≤ j → jp_w T l S j = jp_w T l S k := fun j hj => by
        obtain ⟨d, rfl⟩ : ∃ d, j = k + d := ⟨j - k, by omega⟩
        exact jp_hi hlt d
      refine ⟨a, m, hca, rfl, ?_⟩
      rcases hP with ⟨n, hG⟩ | ⟨h1, h2⟩
      · refine Or.inl ⟨fun j hj => ?_, n, by rw [hall 28 (by omega)]; exact hG⟩
        by_cases e : j < k
        · exact hsm j e
        · rw [hall j (by omega)]; exact hsk n hG
      · exact Or.inr ⟨fun q => h2 (q k (by omega)), h1⟩
    · have hdl : S / 2 ^ k < 2 ^ 31 := Nat.lt_of_le_of_lt (Nat.div_le_self _ _) hS31
      rw [if_neg (nI_ne0 (Nat.pos_of_ne_zero z) hdl)]
      rcases hP with ⟨n, hG⟩ | ⟨h1, h2⟩
      · rw [if_pos hG.1, nb_tb]
        by_cases hb : S.testBit k = true
        · rw [if_pos hb, if_neg (show ¬ nI 1 = 0 by decide)]
          obtain ⟨m1, e1, e2, e3⟩ := wy_0 (F := F) (c := b) (m := m)
          rw [e1]
          simp only [xc_v]
          have hcb : cw_c b := by unfold cw_2 at hab; unfold cw_c; omega
          have hne : a ≠ b ∧ a ≠ b + 1 ∧ a + 1 ≠ b ∧ a + 1 ≠ b + 1 := by unfold cw_2 at hab; omega
          have ha1 := (e3 a hne.1 hne.2.1).1
          have ha2 := (e3 (a + 1) hne.2.2.1 hne.2.2.2).2
          obtain ⟨q, s, hK⟩ := hrow k hb
          obtain ⟨m2, f1, f2, f3⟩ := jc_64 (F := F) (N := N) (l := l) (a := a) (b := b) (k := k) (n := n) (x1 := nI S) (kk := fun (m616 : xm_S) => wt_waysOfSet_l23 F N (nI S) (nI l) kk fu b a (nI (k + 1)) m616) hF hN hab (by omega) hl n 0 F m1 (by omega) (by have := hG.2.2.1; omega) (by
            obtain ⟨g1, g2, g3, g4, g5⟩ := hG
            exact ⟨by rw [ha1, g1], by rw [ha1, g2], g3, by rw [ha2]; exact g4, by rw [ha2]; exact g5⟩) (kt_G_f hcb hK e3) (Or.inl ⟨0, by
            obtain ⟨g1, g2, g3, g4, g5⟩ := e2
            exact ⟨g1, g2, g3, g4, fun x => ⟨fun ⟨t, h, _⟩ => by omega, fun ⟨t, h, _⟩ => by omega⟩⟩⟩)
          have f1' : wt_waysOfSet_l64 F N (nI S) (nI l) a b (nI k) _ F (0 : Int32) m1 = _ := f1
          rw [f1']
          refine ih (k + 1) fu b a m2 (by omega) (by omega) (by unfold cw_2 at *; omega) (fun j hj => ?_) (fun j hj => ?_) (by rw [jp_1 hb]; exact f2)
          · obtain ⟨q', s', hK'⟩ := hrow j hj
            exact ⟨q', s', kt_G_f hcb (kt_G_f hcb hK' e3) f3⟩
          · by_cases e : j = k
            · subst e; exact hsk n hG
            · exact hsm j (by omega)
        · have hb0 : S.testBit k = false := by cases h : S.testBit k with
            | true => exact absurd h hb
            | false => rfl
          rw [if_neg hb, if_pos (show nI 0 = 0 from rfl)]
          refine ih (k + 1) fu a b m (by omega) (by omega) hab hrow (fun j hj => ?_) (by rw [jp_n hb0]; exact Or.inl ⟨n, hG⟩)
          by_cases e : j = k
          · subst e; exact hsk n hG
          · exact hsm j (by omega)
      · rw [if_neg (by rw [h1]; decide)]
        exact ⟨a, m, hca, rfl, Or.inr ⟨fun q => h2 (q k (by omega)), h1⟩⟩
theorem jc_all {m : xm_S} (hF : 100 < F) (hN : N ≤ 6) (hl : l < 16) (hS : S < 2 ^ 28) (hrow : ∀ j, S.testBit j = true → ∃ q s, kt_G N j l (wp_f T l j) q s m) :
    ∃ (c : Nat) (m' : xm_S), (c = 16 ∨ c = 18) ∧ wt_waysOfSet F N (nI S) (nI l) m = some (c, m') ∧ ((jo_w T l S 28 ∧ ∃ n, cw_G c (jp_w T l S 28) n m') ∨ (¬ jo_w T l S 28 ∧ m'.1 c 2 = 1)) := by
  unfold wt_waysOfSet
  obtain ⟨m1, e1, e2, e3⟩ := wy_0 (F := F) (c := 16) (m := m)
  rw [e1]
  simp only [xc_v]
  obtain ⟨m2, f1, f2, f3⟩ := wy_1 (w := 0) hF e2
  rw [f1]
  have hc : cw_c 16 := Or.inr (Or.inl rfl)
  obtain ⟨c, m', g1, g2, g3⟩ := jc_23 (F := F) (N := N) (T := T) (l := l) (S := S) (kk := fun (x617 : Nat) (m619 : xm_S) => some (x617, m619)) hF hN hl hS 28 0 F 16 18 m2 (by omega) (by omega) (Or.inl ⟨rfl, rfl⟩) (fun j hj => by
    obtain ⟨q, s, hK⟩ := hrow j hj
    exact ⟨q, s, kt_G_f hc (kt_G_f hc hK e3) f3⟩) (fun j hj => by omega) (cw_iff (fun x => by show (False ∨ x = 0) ↔ x = 0; simp) f2)
  exact ⟨c, m', g1, g2, g3⟩
end JOINC
