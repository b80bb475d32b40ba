/-! The reference: the automaton. -/
def rw_M (T : bo_T) (U : Nat × (Nat → Nat)) (q : Nat → Nat × Nat) (n : Nat) (m : xm_S) (s l : Nat) : Prop := jo_w T l (q s).1 28 ∧ ∃ A G, m.1 47 (16 * s + l) = nI A ∧ m.1 48 (16 * s + l) = nI G ∧ sp_W U q n (q s) (jp_w T l (q s).1 28) A G
theorem rw_M_x {T : bo_T} {U : Nat × (Nat → Nat)} {q q' : Nat → Nat × Nat} {n n' s l : Nat} {m m' : xm_S} (h : rw_M T U q n m s l) (hs : s < n) (hx : sq_x q n q' n') (hi : sq_i q' n') (h24 : m'.1 47 (16 * s + l) = m.1 47 (16 * s + l)) (h25 : m'.1 48 (16 * s + l) = m.1 48 (16 * s + l)) : rw_M T U q' n' m' s l := by
  obtain ⟨h1, A, G, h2, h3, h4⟩ := h
  have e := hx.2 s hs
  unfold rw_M
  rw [e, h24, h25]
  exact ⟨h1, A, G, h2, h3, sp_x h4 hx hi⟩
def bm_f (m m' : xm_S) : Prop := xf_r [35, 41, 42, 43, 44, 45, 46, 47, 48] m m' ∧ (∀ j, j ≠ 9 → j ≠ 11 → m'.1 35 j = m.1 35 j)
theorem bm_f0 {m : xm_S} : bm_f m m := ⟨xf_0, fun _ _ _ => rfl⟩
theorem bm_ft {a b c : xm_S} (h : bm_f a b) (k : bm_f b c) : bm_f a c := ⟨xf_t h.1 k.1, fun j h1 h2 => (k.2 j h1 h2).trans (h.2 j h1 h2)⟩
theorem bt_M_g {T : bo_T} {m m' : xm_S} (h : bt_M T m) (h0 : m'.1 35 0 = m.1 35 0) (h36 : m'.1 36 = m.1 36) (h37 : m'.1 37 = m.1 37) (h38 : m'.1 38 = m.1 38) : bt_M T m' := ⟨by rw [h0]; exact h.1, fun j hj => by rw [h36, h37, h38]; exact h.2 j hj⟩
theorem ok_part {T : bo_T} {PS : Nat → Nat} {mP : xm_S} {l f j : Nat} (hW : bt_W T) (hP : bt_P T PS mP) (hf : f < T.1) (h : ok_w T PS l f) (hj : (PS f).testBit j = true) (hjT : j ≤ f) : ok_w T PS l j := fun p h1 h2 => h p (by omega) (ps_in hW hP hf (by omega) hj h2)
section AUTOM
variable {F f : Nat} {T : bo_T} {PS : Nat → Nat} {U : Nat × (Nat → Nat)}
theorem bm_65 {s : Nat} {mP : xm_S} {kk : xm_S → Option (Int32 × xm_S)} (hF : 100 < F) (hW : bt_W T) (hP : bt_P T PS mP) (hf : f < T.1) (hok : ∀ l, l < 16 → ok_w T PS l f) (hU : U.1 ≤ 28) (hU2 : ∀ i, i < U.1 → U.2 i < 28) (hb : ∀ t, au_r T U f t → sq_b t ∧ t.2 ≤ U.1) (hps : ∀ t, au_r T U f t → t.1 < 2 ^ (f + 1) ∧ ∀ j, t.1.testBit j = true → (PS f).testBit j = true ∧ j ≤ f) : ∀ (r l fu n : Nat) (q : Nat → Nat × Nat) (m : xm_S), l + r = 16 → r < fu → bt_M T m → al_M T U f q n m → n ≤ 16 → s < n → (∀ s' l', s' < s → l' < 16 → rw_M T U q n m s' l') → (∀ l', l' < l → rw_M T U q n m s l') →
    ∃ m' : xm_S, bm_f m m' ∧ ((∃ (q' : Nat → Nat × Nat) (n' : Nat), mm_automaton_l65 F (nI s) kk fu (nI l) m = kk m' ∧ n' ≤ 16 ∧ sq_x q n q' n' ∧ al_M T U f q' n' m' ∧ (∀ s' l', s' ≤ s → l' < 16 → rw_M T U q' n' m' s' l')) ∨ (mm_automaton_l65 F (nI s) kk fu (nI l) m = some (0, m') ∧ ¬ af_K T U f)) := by
  have h28 := hW.1
  intro r
  induction r with
  | zero =>
    intro l fu n q m hl hfu hM hL hn hs hR hR2
    obtain ⟨fu, rfl⟩ : ∃ g, fu = g + 1 := ⟨fu - 1, by omega⟩
    obtain rfl : l = 16 := by omega
    refine ⟨m, bm_f0, Or.inl ⟨q, n, ?_, hn, ⟨Nat.le_refl _, fun _ _ => rfl⟩, hL, fun s' l' h1 h2 => ?_⟩⟩
    · rw [mm_automaton_l65, if_pos (show (16 : Int32) ≤ nI 16 by decide)]
    · by_cases e : s' = s
      · rw [e]; exact hR2 l' h2
      · exact hR s' l' (by omega) h2
  | succ r ih =>
    intro l fu n q m hl hfu hM hL hn hs hR hR2
    obtain ⟨fu, rfl⟩ : ∃ g, fu = g + 1 := ⟨fu - 1, by omega⟩
    have hl16 : l < 16 := by omega
    obtain ⟨p1, p2⟩ := hps (q s) (hL.2.2.1 s hs)
    rw [mm_automaton_l65, if_neg (show ¬ (16 : Int32) ≤ nI l from nI_ge (b := 16) hl16 (by decide)), nI_1, hM.1, show nI T.1 - (1 : Int32) = nI (T.1 - 1) from pk_sub (b := 1) (by omega)]
    obtain ⟨m1, a1, a2⟩ := mw_upto (F := F) (f := T.1 - 1) (l := l) (m := m) hF hW hP (by omega) hl16 hM
    have g1 := mm_waysUpTo_fr a1
    rw [a1]
    simp only [xc_v]
    have hL1 : al_M T U f q n m1 := al_M_f hL (by rw [(g1 35 rfl).1]) (by rw [(g1 35 rfl).1]) (g1 45 rfl).1 (g1 46 rfl).1 (g1 49 rfl).1
    rw [xg_nI (show s < 17 by omega) (by decide), nI_clamp (show s < 2 ^ 31 by omega), (hL1.1.2.2 s hs).2.1]
    obtain ⟨v, m2, b1, b2, b3⟩ := jm_all (F := F) (l := l) (S := (q s).1) (T := T) (m := m1) hF h28 (Nat.lt_of_lt_of_le p1 (Nat.pow_le_pow_right (by decide) (by omega))) (by rw [(g1 35 rfl).1]; exact hM.1) (fun j hj => by
      obtain ⟨c1, c2⟩ := p2 j hj
      rcases a2 j (by omega) with ⟨-, y⟩ | ⟨y, -⟩
      · exact y
      · exact absurd (ok_part hW hP hf (hok l hl16) c1 c2) y)
    have g2 := mm_join_fr b1
    have fm2 : bm_f m m2 := bm_ft ⟨xf_s rfl g1, fun j _ _ => by rw [(g1 35 rfl).1]⟩ ⟨xf_s rfl g2, fun j h1 _ => b2.2.1 j h1⟩
    rw [b1]
    simp only [xc_s]
    rcases b3 with ⟨v1, j1, cnt, j2⟩ | ⟨v0, j1⟩
    · rw [if_neg (by rw [v1]; decide)]
      have hL2 : al_M T U f q n m2 := al_M_f hL1 (b2.2.1 11 (by decide)) (b2.2.1 17 (by decide)) (g2 45 rfl).1 (g2 46 rfl).1 (g2 49 rfl).1
      obtain ⟨m3, d1, d2, d3⟩ := go_all (F := F) hF hU hU2 hb hl16 hL2 hn hs j2
      have fm3 : bm_f m m3 := bm_ft fm2 ⟨xf_s rfl d2.1, fun j _ h2 => d2.2.1 j h2⟩
      rw [d1]
      simp only []
      rcases d3 with ⟨q', n', A, G, x0, x1, x2, x3, x4, x5⟩ | ⟨y1, y2⟩
      · rw [x2.1.1, if_pos (show nI n' ≤ (16 : Int32) from nI_le (b := 16) x0 (by decide))]
        have keep : ∀ c, c ≠ 16 * s + l → m3.1 47 c = m.1 47 c ∧ m3.1 48 c = m.1 48 c := fun c hc => by
          obtain ⟨z1, z2⟩ := d2.2.2 c hc
          rw [z1, z2, (g2 47 rfl).1, (g2 48 rfl).1, (g1 47 rfl).1, (g1 48 rfl).1]
          exact ⟨rfl, rfl⟩
        obtain ⟨m', k1, k2⟩ := ih (l + 1) fu n' q' m3 (by omega) (by omega) (bt_M_g hM (fm3.2 0 (by decide) (by decide)) (fm3.1 36 rfl).1 (fm3.1 37 rfl).1 (fm3.1 38 rfl).1) x2 x0 (by have := x1.1; omega) (fun s' l' h1 h2 => by
          obtain ⟨z1, z2⟩ := keep (16 * s' + l') (by omega)
          exact rw_M_x (hR s' l' h1 h2) (by omega) x1 x2.2.1 z1 z2) (fun l' h1 => by
          by_cases e : l' = l
          · subst e
            have eq : q' s = q s := x1.2 s hs
            refine ⟨by rw [eq]; exact j1, A, G, x3, x4, ?_⟩
            rw [eq] at x5 ⊢
            exact x5
          · obtain ⟨z1, z2⟩ := keep (16 * s + l') (by omega)
            exact rw_M_x (hR2 l' (by omega)) hs x1 x2.2.1 z1 z2)
        refine ⟨m', bm_ft fm3 k1, ?_⟩
        rcases k2 with ⟨q2, n2, y1, y0, y2, y3⟩ | y
        · exact Or.inl ⟨q2, n2, y1, y0, sq_x_t x1 y2, y3⟩
        · exact Or.inr y
      · rw [y1, if_neg (by decide)]
        exact ⟨m3, fm3, Or.inr ⟨rfl, fun z => y2 z.1⟩⟩
    · rw [if_pos v0]
      exact ⟨m2, fm2, Or.inr ⟨rfl, fun z => j1 (z.2 (q s) (hL.2.2.1 s hs) l hl16)⟩⟩
end AUTOM
