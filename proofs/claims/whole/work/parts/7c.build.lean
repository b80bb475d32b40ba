/-! The class: building the automaton. -/
theorem sp_x {U : Nat × (Nat → Nat)} {q q' : Nat → Nat × Nat} {n n' A G : Nat} {s : Nat × Nat} {W : Int64 → Prop} (h : sp_W U q n s W A G) (hx : sq_x q n q' n') (hi : sq_i q' n') : sp_W U q' n' s W A G := by
  obtain ⟨h1, h2, h3, h4⟩ := h
  have hle : 2 ^ n ≤ 2 ^ n' := Nat.pow_le_pow_right (by decide) hx.1
  have no : ∀ t, t < n' → ¬ t < n → ∀ x, W x → au_t U s x ≠ q' t := fun t ht hn x hw e => by
    obtain ⟨j, j1, j2⟩ := h4 x hw
    have := hi j t (by have := hx.1; omega) ht (by rw [hx.2 j j1, j2, e])
    omega
  refine ⟨by omega, by omega, fun t ht => ?_, fun x hw => ?_⟩
  · by_cases z : t < n
    · rw [hx.2 t z]; exact h3 t z
    · have hp : 2 ^ n ≤ 2 ^ t := Nat.pow_le_pow_right (by decide) (by omega)
      rw [Nat.testBit_lt_two_pow (Nat.lt_of_lt_of_le h1 hp), Nat.testBit_lt_two_pow (Nat.lt_of_lt_of_le h2 hp)]
      exact ⟨⟨fun h => (by cases h), fun ⟨x, a, b⟩ => absurd b (no t ht z x a)⟩, ⟨fun h => (by cases h), fun ⟨x, a, b, _⟩ => absurd b (no t ht z x a)⟩⟩
  · obtain ⟨j, j1, j2⟩ := h4 x hw
    exact ⟨j, by have := hx.1; omega, by rw [hx.2 j j1, j2]⟩
def rw_C (T : bo_T) (U : Nat × (Nat → Nat)) (q : Nat → Nat × Nat) (n : Nat) (m : xm_S) (s l : Nat) : Prop := jo_w T l (q s).1 28 ∧ ∃ A G, m.1 24 (16 * s + l) = nI A ∧ m.1 25 (16 * s + l) = nI G ∧ sp_W U q n (q s) (jp_w T l (q s).1 28) A G
theorem rw_C_x {T : bo_T} {U : Nat × (Nat → Nat)} {q q' : Nat → Nat × Nat} {n n' s l : Nat} {m m' : xm_S} (h : rw_C T U q n m s l) (hs : s < n) (hx : sq_x q n q' n') (hi : sq_i q' n') (h24 : m'.1 24 (16 * s + l) = m.1 24 (16 * s + l)) (h25 : m'.1 25 (16 * s + l) = m.1 25 (16 * s + l)) : rw_C T U q' n' m' s l := by
  obtain ⟨h1, A, G, h2, h3, h4⟩ := h
  have e := hx.2 s hs
  unfold rw_C
  rw [e, h24, h25]
  exact ⟨h1, A, G, h2, h3, sp_x h4 hx hi⟩
def bg_f (m m' : xm_S) : Prop := xf_r [14, 15, 16, 17, 18, 19, 20, 22, 23, 24, 25] m m' ∧ (∀ j, j ≠ 6 → m'.1 20 j = m.1 20 j)
theorem bg_f0 {m : xm_S} : bg_f m m := ⟨xf_0, fun _ _ => rfl⟩
theorem bg_ft {a b c : xm_S} (h : bg_f a b) (k : bg_f b c) : bg_f a c := ⟨xf_t h.1 k.1, fun j hj => (k.2 j hj).trans (h.2 j hj)⟩
theorem xk_in {L : List Nat} (N : Nat) (h1 : L.elem 13 = false) (h2 : L.elem 58 = false) : xf_in L (xk_c N) = false := by
  cases N with
  | zero => exact h1
  | succ N =>
    unfold xf_in
    rw [show xk_c (N + 1) = 58 + N from rfl, Nat.ble_eq_true_of_le (Nat.le_add_right 58 N)]
    exact h2
theorem kt_G_x {N f l q s : Nat} {Q : Int64 → Prop} {m m' : xm_S} {L : List Nat} (h : kt_G N f l Q q s m) (g : xf_r L m m') (h11 : xf_in L 11 = false) (h12 : xf_in L 12 = false) (h13 : L.elem 13 = false) (h58 : L.elem 58 = false) : kt_G N f l Q q s m' := by
  unfold kt_G at *
  rw [(g 11 h11).1, (g 12 h12).1, (g _ (xk_in N h13 h58)).2]
  exact h
-- all parts' rows are known
def kr_K (T : bo_T) (PS : Nat → Nat) (f N : Nat) (m : xm_S) : Prop := ∀ l, l < 16 → ∀ j, (PS f).testBit j = true → ∃ c e, kt_G N j l (wp_f T l j) c e m
section BUILDC
variable {F N f : Nat} {T : bo_T} {PS : Nat → Nat} {U : Nat × (Nat → Nat)}
theorem bc_72 {s : Nat} {kk : Nat → xm_S → Option (Int32 × Nat × xm_S)} (hF : 100 < F) (hN : N ≤ 6) (hU : U.1 ≤ 28) (hU2 : ∀ i, i < U.1 → U.2 i < 28) (hb : ∀ t, au_r T U f t → sq_b t ∧ t.2 ≤ U.1) (hps : ∀ t, au_r T U f t → ∀ j, t.1.testBit j = true → (PS f).testBit j = true) : ∀ (r l fu n : Nat) (q : Nat → Nat × Nat) (m : xm_S), l + r = 16 → r < fu → al_C T U f q n m → s < n → kr_K T PS f N m → (∀ s' l', s' < s → l' < 16 → rw_C T U q n m s' l') → (∀ l', l' < l → rw_C T U q n m s l') →
    ∃ m' : xm_S, bg_f m m' ∧ ((∃ (q' : Nat → Nat × Nat) (n' : Nat), au_build_l72 F (nI s) kk fu (nI l) N m = kk N m' ∧ sq_x q n q' n' ∧ al_C T U f q' n' m' ∧ (∀ s' l', s' ≤ s → l' < 16 → rw_C T U q' n' m' s' l')) ∨ (au_build_l72 F (nI s) kk fu (nI l) N m = some (0, N, m') ∧ ¬ af_K T U f)) := by
  intro r
  induction r with
  | zero =>
    intro l fu n q m hl hfu hL hs hK hR hR2
    obtain ⟨fu, rfl⟩ : ∃ g, fu = g + 1 := ⟨fu - 1, by omega⟩
    obtain rfl : l = 16 := by omega
    refine ⟨m, bg_f0, Or.inl ⟨q, n, ?_, ⟨Nat.le_refl _, fun _ _ => rfl⟩, hL, fun s' l' h1 h2 => ?_⟩⟩
    · rw [au_build_l72, if_pos (show (16 : Int32) ≤ nI 16 by decide)]
    · by_cases e : s' = s
      · rw [e]; exact hR2 l' h2
      · exact hR s' l' (by omega) h2
  | succ r ih =>
    intro l fu n q m hl hfu hL hs hK hR hR2
    obtain ⟨fu, rfl⟩ : ∃ g, fu = g + 1 := ⟨fu - 1, by omega⟩
    have hl16 : l < 16 := by omega
    rw [au_build_l72, if_neg (show ¬ (16 : Int32) ≤ nI l from nI_ge (b := 16) hl16 (by decide)), nI_1]
    obtain ⟨v, m1, e1, e2, e3⟩ := st_add (F := F) (N := N) (s := s) (l := l) hF hN hU hU2 hb hl16 hL hs (fun j hj => hK l hl16 j (hps (q s) (hL.2.2.1 s hs) j hj))
    rw [e1]
    simp only [xc_s]
    rcases e3 with ⟨v1, j1, q', n', A, G, x1, x2, x3, x4, x5⟩ | ⟨v0, y⟩
    · rw [if_neg (by rw [v1]; decide)]
      have hi' := x2.2.1
      obtain ⟨m', d1, d2⟩ := ih (l + 1) fu n' q' m1 (by omega) (by omega) x2 (by have := x1.1; omega) (fun l' hl' j hj => by
        obtain ⟨c, e, hk⟩ := hK l' hl' j hj
        exact ⟨c, e, kt_G_x hk e2.1 rfl rfl rfl rfl⟩) (fun s' l' h1 h2 => by
        obtain ⟨z1, z2⟩ := e2.2.2 (16 * s' + l') (by omega)
        exact rw_C_x (hR s' l' h1 h2) (by omega) x1 hi' z1 z2) (fun l' h1 => by
        by_cases e : l' = l
        · subst e
          have eq : q' s = q s := x1.2 s hs
          refine ⟨by rw [eq]; exact j1, A, G, x3, x4, ?_⟩
          rw [eq] at x5 ⊢
          exact x5
        · obtain ⟨z1, z2⟩ := e2.2.2 (16 * s + l') (by omega)
          exact rw_C_x (hR2 l' (by omega)) hs x1 hi' z1 z2)
      refine ⟨m', bg_ft ⟨e2.1, e2.2.1⟩ d1, ?_⟩
      rcases d2 with ⟨q2, n2, y1, y2, y3⟩ | y
      · exact Or.inl ⟨q2, n2, y1, sq_x_t x1 y2, y3⟩
      · exact Or.inr y
    · rw [if_pos v0]
      exact ⟨m1, ⟨e2.1, e2.2.1⟩, Or.inr ⟨rfl, y⟩⟩
theorem bc_56 {kk : Nat → xm_S → Option (Int32 × Nat × xm_S)} (hF : 100 < F) (hN : N ≤ 6) (hU : U.1 ≤ 28) (hU2 : ∀ i, i < U.1 → U.2 i < 28) (hb : ∀ t, au_r T U f t → sq_b t ∧ t.2 ≤ U.1) (hps : ∀ t, au_r T U f t → ∀ j, t.1.testBit j = true → (PS f).testBit j = true) : ∀ (r s fu n : Nat) (q : Nat → Nat × Nat) (m : xm_S), s + r = 16 → r < fu → al_C T U f q n m → s ≤ n → kr_K T PS f N m → (∀ s' l', s' < s → l' < 16 → rw_C T U q n m s' l') →
    ∃ m' : xm_S, bg_f m m' ∧ ((∃ (q' : Nat → Nat × Nat) (n' : Nat), au_build_l56 F kk fu (nI s) N m = kk N m' ∧ sq_x q n q' n' ∧ al_C T U f q' n' m' ∧ (∀ s' l', s' < n' → l' < 16 → rw_C T U q' n' m' s' l')) ∨ (au_build_l56 F kk fu (nI s) N m = some (0, N, m') ∧ ¬ af_K T U f)) := by
  intro r
  induction r with
  | zero =>
    intro s fu n q m hs hfu hL hsn hK hR
    obtain ⟨fu, rfl⟩ : ∃ g, fu = g + 1 := ⟨fu - 1, by omega⟩
    have hn := hL.1.2.1
    obtain rfl : s = n := by omega
    refine ⟨m, bg_f0, Or.inl ⟨q, s, ?_, ⟨Nat.le_refl _, fun _ _ => rfl⟩, hL, hR⟩⟩
    rw [au_build_l56, hL.1.1, if_pos (nI_le (Nat.le_refl _) (by omega))]
  | succ r ih =>
    intro s fu n q m hs hfu hL hsn hK hR
    obtain ⟨fu, rfl⟩ : ∃ g, fu = g + 1 := ⟨fu - 1, by omega⟩
    have hn := hL.1.2.1
    by_cases z : s = n
    · subst z
      refine ⟨m, bg_f0, Or.inl ⟨q, s, ?_, ⟨Nat.le_refl _, fun _ _ => rfl⟩, hL, hR⟩⟩
      rw [au_build_l56, hL.1.1, if_pos (nI_le (Nat.le_refl _) (by omega))]
    · rw [au_build_l56, hL.1.1, if_neg (nI_ge (by omega) (by omega)), if_neg (show ¬ (16 : Int32) ≤ nI s from nI_ge (b := 16) (by omega) (by decide)), nI_1]
      obtain ⟨m1, e1, e2⟩ := bc_72 (F := F) (N := N) (s := s) (kk := fun (n694 : Nat) (m693 : xm_S) => au_build_l56 F kk fu (nI (s + 1)) n694 m693) hF hN hU hU2 hb hps 16 0 F n q m (by omega) (by omega) hL (by omega) hK hR (fun l' h => by omega)
      rcases e2 with ⟨q1, n1, x1, x2, x3, x4⟩ | ⟨x1, x2⟩
      · have x1' : au_build_l72 F (nI s) _ F (0 : Int32) N m = _ := x1
        rw [x1']
        obtain ⟨m2, d1, d2⟩ := ih (s + 1) fu n1 q1 m1 (by omega) (by omega) x3 (by have := x2.1; omega) (fun l' hl' j hj => by
          obtain ⟨c, e, hk⟩ := hK l' hl' j hj
          exact ⟨c, e, kt_G_x hk e1.1 rfl rfl rfl rfl⟩) (fun s' l' h1 h2 => x4 s' l' (by omega) h2)
        refine ⟨m2, bg_ft e1 d1, ?_⟩
        rcases d2 with ⟨q2, n2, y1, y2, y3⟩ | y
        · exact Or.inl ⟨q2, n2, y1, sq_x_t x2 y2, y3⟩
        · exact Or.inr y
      · exact ⟨m1, e1, Or.inr ⟨x1, x2⟩⟩
end BUILDC
