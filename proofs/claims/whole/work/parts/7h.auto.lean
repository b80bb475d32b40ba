/-! The reference: the automaton, all states. -/
section AUTOM2
variable {F f : Nat} {T : bo_T} {PS : Nat → Nat} {U : Nat × (Nat → Nat)}
theorem bm_54 {mP : xm_S} {kk : xm_S → Option (Int32 × xm_S)} (hF : 100 < F) (hW : bt_W T) (hP : bt_P T PS mP) (hf : f < T.1) (hok : ∀ l, l < 16 → ok_w T PS l f) (hU : U.1 ≤ 28) (hU2 : ∀ i, i < U.1 → U.2 i < 28) (hb : ∀ t, au_r T U f t → sq_b t ∧ t.2 ≤ U.1) (hps : ∀ t, au_r T U f t → t.1 < 2 ^ (f + 1) ∧ ∀ j, t.1.testBit j = true → (PS f).testBit j = true ∧ j ≤ f) : ∀ (r s fu n : Nat) (q : Nat → Nat × Nat) (m : xm_S), s + r = 16 → r < fu → bt_M T m → al_M T U f q n m → n ≤ 16 → s ≤ n → (∀ s' l', s' < s → l' < 16 → rw_M T U q n m s' l') →
    ∃ m' : xm_S, bm_f m m' ∧ ((∃ (q' : Nat → Nat × Nat) (n' : Nat), mm_automaton_l54 F kk fu (nI s) m = kk m' ∧ n' ≤ 16 ∧ sq_x q n q' n' ∧ al_M T U f q' n' m' ∧ (∀ s' l', s' < n' → l' < 16 → rw_M T U q' n' m' s' l')) ∨ (mm_automaton_l54 F kk fu (nI s) m = some (0, m') ∧ ¬ af_K T U f)) := by
  intro r
  induction r with
  | zero =>
    intro s fu n q m hs hfu hM hL hn hsn hR
    obtain ⟨fu, rfl⟩ : ∃ g, fu = g + 1 := ⟨fu - 1, by omega⟩
    obtain rfl : s = n := by omega
    refine ⟨m, bm_f0, Or.inl ⟨q, s, ?_, hn, ⟨Nat.le_refl _, fun _ _ => rfl⟩, hL, hR⟩⟩
    rw [mm_automaton_l54, hL.1.1, if_pos (nI_le (Nat.le_refl _) (by omega))]
  | succ r ih =>
    intro s fu n q m hs hfu hM hL hn hsn hR
    obtain ⟨fu, rfl⟩ : ∃ g, fu = g + 1 := ⟨fu - 1, by omega⟩
    by_cases z : s = n
    · subst z
      refine ⟨m, bm_f0, Or.inl ⟨q, s, ?_, hn, ⟨Nat.le_refl _, fun _ _ => rfl⟩, hL, hR⟩⟩
      rw [mm_automaton_l54, hL.1.1, if_pos (nI_le (Nat.le_refl _) (by omega))]
    · rw [mm_automaton_l54, hL.1.1, if_neg (nI_ge (by omega) (by omega)), nI_1]
      obtain ⟨m1, e1, e2⟩ := bm_65 (F := F) (s := s) (kk := fun (m1917 : xm_S) => mm_automaton_l54 F kk fu (nI (s + 1)) m1917) hF hW hP hf hok hU hU2 hb hps 16 0 F n q m (by omega) (by omega) hM hL hn (by omega) hR (fun l' h => by omega)
      rcases e2 with ⟨q1, n1, x1, x0, x2, x3, x4⟩ | ⟨x1, x2⟩
      · have x1' : mm_automaton_l65 F (nI s) _ F (0 : Int32) m = _ := x1
        rw [x1']
        obtain ⟨m2, d1, d2⟩ := ih (s + 1) fu n1 q1 m1 (by omega) (by omega) (bt_M_g hM (e1.2 0 (by decide) (by decide)) (e1.1 36 rfl).1 (e1.1 37 rfl).1 (e1.1 38 rfl).1) x3 x0 (by have := x2.1; omega) (fun s' l' h1 h2 => x4 s' l' (by omega) h2)
        refine ⟨m2, bm_ft e1 d1, ?_⟩
        rcases d2 with ⟨q2, n2, y1, y0, y2, y3⟩ | y
        · exact Or.inl ⟨q2, n2, y1, y0, sq_x_t x2 y2, y3⟩
        · exact Or.inr y
      · exact ⟨m1, e1, Or.inr ⟨x1, x2⟩⟩
theorem bm_2 {mP : xm_S} {kk : xm_S → Option (Int32 × xm_S)} (hF : 100 < F) (hW : bt_W T) (hP : bt_P T PS mP) (hf : f < T.1) : ∀ (r l fu : Nat) (m : xm_S), l + r = 16 → r < fu → bt_M T m → (∀ l', l' < l → ok_w T PS l' f) →
    ∃ m' : xm_S, xf_r [41, 42] m m' ∧ ((mm_automaton_l2 F (nI f) kk fu (nI l) m = kk m' ∧ (∀ l', l' < 16 → ok_w T PS l' f)) ∨ (mm_automaton_l2 F (nI f) kk fu (nI l) m = some (0, m') ∧ ¬ ∀ l', l' < 16 → ok_w T PS l' f)) := by
  have h28 := hW.1
  intro r
  induction r with
  | zero =>
    intro l fu m hl hfu hM hK
    obtain ⟨fu, rfl⟩ : ∃ g, fu = g + 1 := ⟨fu - 1, by omega⟩
    obtain rfl : l = 16 := by omega
    refine ⟨m, xf_0, Or.inl ⟨?_, hK⟩⟩
    rw [mm_automaton_l2, if_pos (show (16 : Int32) ≤ nI 16 by decide)]
  | succ r ih =>
    intro l fu m hl hfu hM hK
    obtain ⟨fu, rfl⟩ : ∃ g, fu = g + 1 := ⟨fu - 1, by omega⟩
    have hl16 : l < 16 := by omega
    obtain ⟨m1, a1, a2⟩ := mw_upto (F := F) (f := f) (l := l) (m := m) hF hW hP hf hl16 hM
    have g1 : xf_r [41, 42] m m1 := mm_waysUpTo_fr a1
    rw [mm_automaton_l2, if_neg (show ¬ (16 : Int32) ≤ nI l from nI_ge (b := 16) hl16 (by decide)), nI_1, a1]
    simp only [xc_v]
    rw [xg_nI (show f < 28 by omega) (by decide), nI_clamp (show f < 2 ^ 31 by omega)]
    rcases a2 f (Nat.le_refl _) with ⟨y, c, y2⟩ | ⟨y, y2⟩
    · rw [y2.1, if_pos (show nI c ≤ (60 : Int32) from nI_le (b := 60) y2.2.1 (by decide))]
      obtain ⟨m', d1, d2⟩ := ih (l + 1) fu m1 (by omega) (by omega) (bt_M_f hM g1 rfl rfl rfl rfl) (fun l' h => by
        by_cases e : l' = l
        · subst e; exact y
        · exact hK l' (by omega))
      exact ⟨m', xf_t g1 d1, d2⟩
    · rw [y2, if_neg (by decide)]
      exact ⟨m1, g1, Or.inr ⟨rfl, fun z => y (z l hl16)⟩⟩
end AUTOM2
