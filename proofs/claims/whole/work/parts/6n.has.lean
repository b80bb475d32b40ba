/-! Where formulas hold: the model's side, and the call. -/
theorem hw_mL {x y : Int64} {n p : Nat} (hn : n ≤ 8) (hp : p < 16) : mm_letterAt x (nI n) y (nI p) = nI (hw_L x y n p) := by
  unfold mm_letterAt hw_L
  by_cases h : p < n
  · rw [if_neg (by rw [nI_leI (by omega) (by omega)]; omega), if_pos h, show (4 : Int32) * nI p = nI (4 * p) from pk_mul 4 p, hw_l_m]
  · rw [if_pos (by rw [nI_leI (by omega) (by omega)]; omega), if_neg h, show nI p - nI n = nI (p - n) from pk_sub (by omega), show (4 : Int32) * nI (p - n) = nI (4 * (p - n)) from pk_mul 4 _, hw_l_m]
section HASM
variable {F n w : Nat} {x y : Int64} {T : bo_T} {m : xm_S}
theorem fx_u {f g : Nat} {kk : Int32 → xm_S → Option (Int32 × xm_S)} (hw0 : 0 < w) (hw : w ≤ 16) (hn : n < w) (hf : f < 2 ^ w) (hg : g < 2 ^ w) : ∀ (r fu i z : Nat), i + r = w + 1 → r < fu → z < 2 ^ w →
    mm_fixed_l19 F (nI f) (nI g) (1 : Int32) (nI n) (nI w) kk fu (nI z) (nI i) m = kk (nI (hw_u n w f g r z)) m := by
  intro r
  induction r with
  | zero =>
    intro fu i z hi hfu hz
    obtain ⟨fu, rfl⟩ : ∃ g, fu = g + 1 := ⟨fu - 1, by omega⟩
    rw [mm_fixed_l19, if_pos (nI_lt (by omega) (by omega))]
    rfl
  | succ r ih =>
    intro fu i z hi hfu hz
    obtain ⟨fu, rfl⟩ : ∃ g, fu = g + 1 := ⟨fu - 1, by omega⟩
    rw [mm_fixed_l19, if_neg (nI_nlt (by omega) (by omega)), if_neg (show ¬ (1 : Int32) = 0 by decide), hw_am hw0 hw hn hz, nb_and, nb_or, nI_1]
    exact ih fu (i + 1) _ (by omega) (by omega) (Nat.or_lt_two_pow hg (Nat.lt_of_le_of_lt Nat.and_le_left hf))
theorem fx_r {f g : Nat} {kk : Int32 → xm_S → Option (Int32 × xm_S)} (hw0 : 0 < w) (hw : w ≤ 16) (hn : n < w) (hf : f < 2 ^ w) (hg : g < 2 ^ w) : ∀ (r fu i z : Nat), i + r = w + 1 → r < fu → z < 2 ^ w →
    mm_fixed_l19 F (nI f) (nI g) (0 : Int32) (nI n) (nI w) kk fu (nI z) (nI i) m = kk (nI (hw_r n w f g r z)) m := by
  intro r
  induction r with
  | zero =>
    intro fu i z hi hfu hz
    obtain ⟨fu, rfl⟩ : ∃ g, fu = g + 1 := ⟨fu - 1, by omega⟩
    rw [mm_fixed_l19, if_pos (nI_lt (by omega) (by omega))]
    rfl
  | succ r ih =>
    intro fu i z hi hfu hz
    obtain ⟨fu, rfl⟩ : ∃ g, fu = g + 1 := ⟨fu - 1, by omega⟩
    rw [mm_fixed_l19, if_neg (nI_nlt (by omega) (by omega)), if_pos (show (0 : Int32) = 0 from rfl), hw_am hw0 hw hn hz, nb_or, nb_and, nI_1]
    exact ih fu (i + 1) _ (by omega) (by omega) (Nat.lt_of_le_of_lt Nat.and_le_left hg)
theorem fx_1 {f g : Nat} (hF : 100 < F) (hw0 : 0 < w) (hw : w ≤ 16) (hn : n < w) (hf : f < 2 ^ w) (hg : g < 2 ^ w) : mm_fixed F (nI f) (nI g) (1 : Int32) (nI n) (nI w) m = some (nI (hw_u n w f g w g), m) := by
  unfold mm_fixed
  rw [if_neg (show ¬ (1 : Int32) = 0 by decide), ← hw_u_0]
  exact fx_u (kk := fun x m => some (x, m)) hw0 hw hn hf hg (w + 1) F 0 0 (by omega) (by omega) (Nat.two_pow_pos w)
theorem fx_0 {f g : Nat} (hF : 100 < F) (hw0 : 0 < w) (hw : w ≤ 16) (hn : n < w) (hf : f < 2 ^ w) (hg : g < 2 ^ w) : mm_fixed F (nI f) (nI g) (0 : Int32) (nI n) (nI w) m = some (nI (hw_r n w f g w g), m) := by
  unfold mm_fixed
  rw [if_pos (show (0 : Int32) = 0 from rfl), nb_m1 (by omega), ← hw_r_0 hn hf hg]
  exact fx_r (kk := fun x m => some (x, m)) hw0 hw hn hf hg (w + 1) F 0 _ (by omega) (by omega) (by have := Nat.two_pow_pos w; omega)
-- bits of the word
theorem hb_2 {a1 a6 a8 a9 : Int32} {k a : Nat} {kk : Int32 → xm_S → Option (Int32 × xm_S)} (hw : w ≤ 16) (hn : n ≤ 8) (hk : k < 28) (ha : a < 4) (hK : m.1 36 k = 2) (hA : m.1 37 k = nI a) : ∀ (r fu i : Nat), i + r = w → r < fu →
    mm_has_l125 F a1 x (nI n) y (nI w) a6 (nI k) a8 a9 kk fu (nI (hw_w (fun p => hw_b x y n p a) i)) (nI i) m = kk (nI (hw_w (fun p => hw_b x y n p a) w)) m := by
  intro r
  induction r with
  | zero =>
    intro fu i hi hf
    obtain ⟨fu, rfl⟩ : ∃ g, fu = g + 1 := ⟨fu - 1, by omega⟩
    obtain rfl : i = w := by omega
    rw [mm_has_l125, if_pos (nI_le (Nat.le_refl _) (by omega))]
  | succ r ih =>
    intro fu i hi hf
    obtain ⟨fu, rfl⟩ : ∃ g, fu = g + 1 := ⟨fu - 1, by omega⟩
    have hL := hw_L_lt x y n i
    have hpw : 2 ^ i ≤ 2 ^ 15 := Nat.pow_le_pow_right (by decide) (by omega)
    rw [mm_has_l125, if_neg (nI_ge (by omega) (by omega))]
    simp only [xj_j, xg_nI hk (show 28 < 2 ^ 31 by decide), nI_clamp (show k < 2 ^ 31 by omega), hK, hA, if_true, hw_mL hn (show i < 16 by omega), nb_bit (show hw_L x y n i < 2 ^ 31 by omega) (show a < 32 by omega)]
    have e : nI (hw_L x y n i / 2 ^ a % 2) <<< (nI i &&& 31) = nI (hw_b x y n i a * 2 ^ i) := nb_shl (by omega) (Nat.lt_of_le_of_lt (Nat.mul_le_mul (show hw_L x y n i / 2 ^ a % 2 ≤ 1 from by have := Nat.mod_lt (hw_L x y n i / 2 ^ a) (show 0 < 2 by decide); omega) hpw) (by decide))
    rw [e, nb_or, nI_1]
    exact ih fu (i + 1) (by omega) (by omega)
theorem hb_3 {a1 a6 a8 a9 : Int32} {k a : Nat} {kk : Int32 → xm_S → Option (Int32 × xm_S)} (hw : w ≤ 16) (hn : n ≤ 8) (hk : k < 28) (ha : a < 4) (hK : m.1 36 k = 3) (hA : m.1 37 k = nI a) : ∀ (r fu i : Nat), i + r = w → r < fu →
    mm_has_l125 F a1 x (nI n) y (nI w) a6 (nI k) a8 a9 kk fu (nI (hw_w (fun p => 1 - hw_b x y n p a) i)) (nI i) m = kk (nI (hw_w (fun p => 1 - hw_b x y n p a) w)) m := by
  intro r
  induction r with
  | zero =>
    intro fu i hi hf
    obtain ⟨fu, rfl⟩ : ∃ g, fu = g + 1 := ⟨fu - 1, by omega⟩
    obtain rfl : i = w := by omega
    rw [mm_has_l125, if_pos (nI_le (Nat.le_refl _) (by omega))]
  | succ r ih =>
    intro fu i hi hf
    obtain ⟨fu, rfl⟩ : ∃ g, fu = g + 1 := ⟨fu - 1, by omega⟩
    have hL := hw_L_lt x y n i
    have hpw : 2 ^ i ≤ 2 ^ 15 := Nat.pow_le_pow_right (by decide) (by omega)
    have hb := hw_b_lt x y n i a
    rw [mm_has_l125, if_neg (nI_ge (by omega) (by omega))]
    simp only [xj_j, xg_nI hk (show 28 < 2 ^ 31 by decide), nI_clamp (show k < 2 ^ 31 by omega), hK, hA, if_true, show ¬ (3 : Int32) = 2 by decide, if_false, hw_mL hn (show i < 16 by omega), nb_bit (show hw_L x y n i < 2 ^ 31 by omega) (show a < 32 by omega)]
    have e0 : (1 : Int32) - nI (hw_L x y n i / 2 ^ a % 2) = nI (1 - hw_b x y n i a) := pk_sub (a := 1) (by unfold hw_b at hb; omega)
    have e : nI (1 - hw_b x y n i a) <<< (nI i &&& 31) = nI ((1 - hw_b x y n i a) * 2 ^ i) := nb_shl (by omega) (Nat.lt_of_le_of_lt (Nat.mul_le_mul (show 1 - hw_b x y n i a ≤ 1 by omega) hpw) (by decide))
    rw [e0, e, nb_or, nI_1]
    exact ih fu (i + 1) (by omega) (by omega)
theorem hb_o {a1 a6 a8 a9 : Int32} {k : Nat} {kk : Int32 → xm_S → Option (Int32 × xm_S)} {fu : Nat} {z : Int32} (hw : w ≤ 16) (hw0 : 0 < w) (hk : k < 28) (h2 : ¬ m.1 36 k = 2) (h3 : ¬ m.1 36 k = 3) :
    mm_has_l125 F a1 x (nI n) y (nI w) a6 (nI k) a8 a9 kk (fu + 1) z (0 : Int32) m = kk z m := by
  have h0 : ¬ nI w ≤ (0 : Int32) := nI_ge (a := 0) hw0 (by omega)
  rw [mm_has_l125, if_neg h0]
  simp only [xj_j, xg_nI hk (show 28 < 2 ^ 31 by decide), nI_clamp (show k < 2 ^ 31 by omega), h2, h3, if_false]
theorem hs_m {f : Nat} {kk : xm_S → Option (Int32 × xm_S)} (hF : 100 < F) (hw0 : 0 < w) (hw : w ≤ 16) (hn : n < w) (hn8 : n ≤ 8) (hW : bt_W T) (hf : f < T.1) : ∀ (r fu i : Nat) (m : xm_S), i + r = f + 1 → r < fu → bt_M T m → (∀ p, p < i → m.1 57 p = nI (hs_f T x y n w p)) →
    ∃ m' : xm_S, mm_has_l53 F (nI f) x (nI n) y (nI w) (nI (2 ^ w - 1)) kk fu (nI i) m = kk m' ∧ m'.1 57 f = nI (hs_f T x y n w f) := by
  intro r
  induction r with
  | zero =>
    intro fu i m hi hfu hM hm
    obtain ⟨fu, rfl⟩ : ∃ g, fu = g + 1 := ⟨fu - 1, by omega⟩
    have h28 := hW.1
    rw [mm_has_l53, if_pos (nI_lt (by omega) (by omega))]
    exact ⟨m, rfl, hm f (by omega)⟩
  | succ r ih =>
    intro fu i m hi hfu hM hm
    obtain ⟨fu, rfl⟩ : ∃ g, fu = g + 1 := ⟨fu - 1, by omega⟩
    have h28 := hW.1
    have hk : i < T.1 := by omega
    have hi28 : i < 28 := by omega
    obtain ⟨w1, w2, w3, w4, w5, w6, -⟩ := hW.2 i hk
    obtain ⟨c1, c2, c3⟩ := hM.2 i hk
    obtain ⟨s1, s2, s3⟩ := (bo_W.S hW).2 i hk
    have next : ∀ z : Int32, z = nI (hs_f T x y n w i) → ∃ m' : xm_S, mm_has_l53 F (nI f) x (nI n) y (nI w) (nI (2 ^ w - 1)) kk fu (nI i + 1) (xw_i m 57 i z) = kk m' ∧ m'.1 57 f = nI (hs_f T x y n w f) := by
      intro z hz
      rw [nI_1, hz]
      exact ih fu (i + 1) _ (by omega) (by omega) (bt_M_f hM (xf_i (l := [57]) rfl) rfl rfl rfl rfl) (fun p hp => by
        by_cases e : p = i
        · subst e; exact xi_s
        · rw [xi_j e]; exact hm p (by omega))
    rw [hs_f_e hW hk] at next
    have hlt : ∀ j, j < i → hs_f T x y n w j < 2 ^ w := fun j hj => hs_f_lt hW hw0 hn i j hj (by omega)
    have cc : ∀ j : Nat, j ≤ 8 → ((nI (T.2.1 i) = nI j) ↔ T.2.1 i = j) := fun j hj => fm_e w1 hj
    have c_0 : (nI (T.2.1 i) = 0) ↔ T.2.1 i = 0 := cc 0 (by decide)
    have c_1 : (nI (T.2.1 i) = 1) ↔ T.2.1 i = 1 := cc 1 (by decide)
    have c_2 : (nI (T.2.1 i) = 2) ↔ T.2.1 i = 2 := cc 2 (by decide)
    have c_3 : (nI (T.2.1 i) = 3) ↔ T.2.1 i = 3 := cc 3 (by decide)
    have c_4 : (nI (T.2.1 i) = 4) ↔ T.2.1 i = 4 := cc 4 (by decide)
    have c_5 : (nI (T.2.1 i) = 5) ↔ T.2.1 i = 5 := cc 5 (by decide)
    have c_6 : (nI (T.2.1 i) = 6) ↔ T.2.1 i = 6 := cc 6 (by decide)
    have c_7 : (nI (T.2.1 i) = 7) ↔ T.2.1 i = 7 := cc 7 (by decide)
    have c_8 : (nI (T.2.1 i) = 8) ↔ T.2.1 i = 8 := cc 8 (by decide)
    have c_le : (nI (T.2.1 i) ≤ (3 : Int32)) ↔ T.2.1 i ≤ 3 := nI_leI (b := 3) (by omega) (by decide)
    obtain ⟨G, rfl⟩ : ∃ G, F = G + 1 := ⟨F - 1, by omega⟩
    have hg : ∀ {β : Type} {o : Option β}, xg_n (nI i) 28 o = o := fun {β o} => xg_nI hi28 (by decide)
    have hga : ∀ {β : Type} {o : Option β}, xg_n (nI (T.2.2.1 i)) 28 o = o := fun {β o} => xg_nI (by omega) (by decide)
    have hgb : ∀ {β : Type} {o : Option β}, xg_n (nI (T.2.2.2 i)) 28 o = o := fun {β o} => xg_nI (by omega) (by decide)
    rw [mm_has_l53, if_neg (nI_nlt (by omega) (by omega))]
    simp only [xj_j, xs_m, hg, hga, hgb, nI_clamp (show i < 2 ^ 31 by omega), nI_clamp (show T.2.2.1 i < 2 ^ 31 by omega), nI_clamp (show T.2.2.2 i < 2 ^ 31 by omega), c1, c2, c3, c_le]
    have hcase : T.2.1 i = 0 ∨ T.2.1 i = 1 ∨ T.2.1 i = 2 ∨ T.2.1 i = 3 ∨ T.2.1 i = 4 ∨ T.2.1 i = 5 ∨ T.2.1 i = 6 ∨ T.2.1 i = 7 ∨ T.2.1 i = 8 := by omega
    have nt : ¬ bo_two (T.2.1 i) → mm_hasTwo (nI (T.2.1 i)) = 0 := fun q => by
      unfold mm_hasTwo bo_two at *
      simp only [c_4, c_5, c_7, c_8]
      rw [if_neg (by omega), if_neg (by omega), if_neg (by omega), if_neg (by omega)]
    have yt : bo_two (T.2.1 i) → ¬ mm_hasTwo (nI (T.2.1 i)) = 0 := fun q => by
      unfold mm_hasTwo bo_two at *
      simp only [c_4, c_5, c_7, c_8]
      rcases q with q | q | q | q <;> simp [q]
    have n2 : ∀ j, j ≤ 8 → j ≠ 2 → T.2.1 i = j → ¬ m.1 36 i = 2 := fun j h1 h2 h3 q => by rw [c1, c_2] at q; omega
    have n3 : ∀ j, j ≤ 8 → j ≠ 3 → T.2.1 i = j → ¬ m.1 36 i = 3 := fun j h1 h2 h3 q => by rw [c1, c_3] at q; omega
    rcases hcase with h | h | h | h | h | h | h | h | h
    · rw [if_pos (by omega), if_pos (nt (by unfold bo_two; omega))]
      rw [hb_o hw hw0 hi28 (n2 0 (by decide) (by decide) h) (n3 0 (by decide) (by decide) h)]
      rw [h] at c1
      refine Eq.mp ?_ (next (nI (2 ^ w - 1)) (by unfold hs_s; simp [h]))
      simp (decide := true) only [c1, if_true, if_false]
    · rw [if_pos (by omega), if_pos (nt (by unfold bo_two; omega))]
      rw [hb_o hw hw0 hi28 (n2 1 (by decide) (by decide) h) (n3 1 (by decide) (by decide) h)]
      rw [h] at c1
      refine Eq.mp ?_ (next (nI (0)) (by unfold hs_s; simp [h]))
      simp (decide := true) only [c1, if_true, if_false]
      rfl
    · rw [if_pos (by omega), if_pos (nt (by unfold bo_two; omega))]
      refine Eq.mp ?_ (next (nI (hw_w (fun p => hw_b x y n p (T.2.2.1 i)) w)) (by unfold hs_s; simp [h]))
      have e := fun kk' => hb_2 (F := G + 1) (x := x) (y := y) (w := w) (m := m) (a1 := nI f) (a6 := nI (2 ^ w - 1)) (a8 := 0) (a9 := 0) (k := i) (a := T.2.2.1 i) (kk := kk') hw hn8 hi28 (w3 (by omega)) (by rw [c1, h]; rfl) c2 w (G + 1) 0 (by omega) (by omega)
      have e' := fun kk' => (show mm_has_l125 (G + 1) (nI f) x (nI n) y (nI w) (nI (2 ^ w - 1)) (nI i) 0 0 kk' (G + 1) (0 : Int32) (0 : Int32) m = _ from e kk')
      rw [e']
      rw [h] at c1
      simp (decide := true) only [c1, if_true, if_false]
    · rw [if_pos (by omega), if_pos (nt (by unfold bo_two; omega))]
      refine Eq.mp ?_ (next (nI (hw_w (fun p => 1 - hw_b x y n p (T.2.2.1 i)) w)) (by unfold hs_s; simp [h]))
      have e := fun kk' => hb_3 (F := G + 1) (x := x) (y := y) (w := w) (m := m) (a1 := nI f) (a6 := nI (2 ^ w - 1)) (a8 := 0) (a9 := 0) (k := i) (a := T.2.2.1 i) (kk := kk') hw hn8 hi28 (w3 (by omega)) (by rw [c1, h]; rfl) c2 w (G + 1) 0 (by omega) (by omega)
      have e' := fun kk' => (show mm_has_l125 (G + 1) (nI f) x (nI n) y (nI w) (nI (2 ^ w - 1)) (nI i) 0 0 kk' (G + 1) (0 : Int32) (0 : Int32) m = _ from e kk')
      rw [e']
      rw [h] at c1
      simp (decide := true) only [c1, if_true, if_false]
    · rw [if_neg (by omega), if_neg (yt (by unfold bo_two; omega))]
      rw [hb_o hw hw0 hi28 (n2 4 (by decide) (by decide) h) (n3 4 (by decide) (by decide) h)]
      rw [h] at c1
      refine Eq.mp ?_ (next (nI ((hs_f T x y n w (T.2.2.1 i)) &&& (hs_f T x y n w (T.2.2.2 i)))) (by unfold hs_s; simp [h]))
      have hA := hm _ (w4 (by omega))
      have hAl := hlt _ (w4 (by omega))
      have hB := hm _ (w5 (by unfold bo_two; omega))
      have hBl := hlt _ (w5 (by unfold bo_two; omega))
      simp (decide := true) only [c1, if_true, if_false, hA, hB, nb_and]
    · rw [if_neg (by omega), if_neg (yt (by unfold bo_two; omega))]
      rw [hb_o hw hw0 hi28 (n2 5 (by decide) (by decide) h) (n3 5 (by decide) (by decide) h)]
      rw [h] at c1
      refine Eq.mp ?_ (next (nI ((hs_f T x y n w (T.2.2.1 i)) ||| (hs_f T x y n w (T.2.2.2 i)))) (by unfold hs_s; simp [h]))
      have hA := hm _ (w4 (by omega))
      have hAl := hlt _ (w4 (by omega))
      have hB := hm _ (w5 (by unfold bo_two; omega))
      have hBl := hlt _ (w5 (by unfold bo_two; omega))
      simp (decide := true) only [c1, if_true, if_false, hA, hB, nb_or]
    · rw [if_neg (by omega), if_pos (nt (by unfold bo_two; omega))]
      rw [hb_o hw hw0 hi28 (n2 6 (by decide) (by decide) h) (n3 6 (by decide) (by decide) h)]
      rw [h] at c1
      refine Eq.mp ?_ (next (nI (hw_a n w (hs_f T x y n w (T.2.2.1 i)))) (by unfold hs_s; simp [h]))
      have hA := hm _ (w4 (by omega))
      have hAl := hlt _ (w4 (by omega))
      simp (decide := true) only [c1, if_true, if_false, hA, hw_am hw0 hw hn hAl]
    · rw [if_neg (by omega), if_neg (yt (by unfold bo_two; omega))]
      rw [hb_o hw hw0 hi28 (n2 7 (by decide) (by decide) h) (n3 7 (by decide) (by decide) h)]
      rw [h] at c1
      refine Eq.mp ?_ (next (nI (hw_u n w (hs_f T x y n w (T.2.2.1 i)) (hs_f T x y n w (T.2.2.2 i)) w (hs_f T x y n w (T.2.2.2 i)))) (by unfold hs_s; simp [h]))
      have hA := hm _ (w4 (by omega))
      have hAl := hlt _ (w4 (by omega))
      have hB := hm _ (w5 (by unfold bo_two; omega))
      have hBl := hlt _ (w5 (by unfold bo_two; omega))
      simp (decide := true) only [c1, if_true, if_false, hA, hB, fx_1 hF hw0 hw hn hAl hBl, xc_s]
    · rw [if_neg (by omega), if_neg (yt (by unfold bo_two; omega))]
      rw [hb_o hw hw0 hi28 (n2 8 (by decide) (by decide) h) (n3 8 (by decide) (by decide) h)]
      rw [h] at c1
      refine Eq.mp ?_ (next (nI (hw_r n w (hs_f T x y n w (T.2.2.1 i)) (hs_f T x y n w (T.2.2.2 i)) w (hs_f T x y n w (T.2.2.2 i)))) (by unfold hs_s; simp [h]))
      have hA := hm _ (w4 (by omega))
      have hAl := hlt _ (w4 (by omega))
      have hB := hm _ (w5 (by unfold bo_two; omega))
      have hBl := hlt _ (w5 (by unfold bo_two; omega))
      simp (decide := true) only [c1, if_true, if_false, hA, hB, fx_0 hF hw0 hw hn hAl hBl, xc_s]
end HASM
theorem nb_p0 {x : Nat} : nI x &&& (1 : Int32) = nI (x % 2) := by
  have := nb_and (a := x) (b := 1)
  rw [Nat.and_one_is_mod] at this
  exact this
theorem hs_call {F : Nat} {T : bo_T} {PS : Nat → Nat} {m : xm_S} (v : Int32) (x : Int64) (a : Int32) (y : Int64) (b : Int32) (hF : 100 < F) (hW : bt_W T) (hC : bt_C T m) (hM : bt_M T m) (hP : bt_P T PS m) :
    ∃ (r : Int32) (m1 m2 : xm_S), mk_has F v x a y b m = some (r, m1) ∧ mm_has F v x a y b m1 = some (r, m2) := by
  have h28 := hW.1
  by_cases hv0 : v < 0
  · refine ⟨-1, m, m, ?_, ?_⟩
    · unfold mk_has bk_knows; rw [if_pos hv0, if_pos rfl]
    · unfold mm_has mm_isFormula; rw [if_pos hv0, if_pos rfl]
  obtain ⟨f, hf, rfl⟩ := nI_of hv0
  by_cases hfT : f < T.1
  · have k1 : ¬ bk_knows (nI f) m = 0 := by unfold bk_knows; rw [hC.1, if_neg hv0, if_neg (nI_ge hfT (by omega))]; decide
    have k2 : ∀ m' : xm_S, m'.1 35 0 = nI T.1 → ¬ mm_isFormula (nI f) m' = 0 := fun m' e => by unfold mm_isFormula; rw [e, if_neg hv0, if_neg (nI_ge hfT (by omega))]; decide
    by_cases ha0 : a < 0
    · refine ⟨-1, m, m, ?_, ?_⟩
      · unfold mk_has; rw [if_neg k1, if_pos ha0]
      · unfold mm_has; rw [if_neg (k2 m hM.1), if_pos ha0]
    by_cases ha8 : (8 : Int32) < a
    · refine ⟨-1, m, m, ?_, ?_⟩
      · unfold mk_has; rw [if_neg k1, if_neg ha0, if_pos ha8]
      · unfold mm_has; rw [if_neg (k2 m hM.1), if_neg ha0, if_pos ha8]
    by_cases hb1 : b < (1 : Int32)
    · refine ⟨-1, m, m, ?_, ?_⟩
      · unfold mk_has; rw [if_neg k1, if_neg ha0, if_neg ha8, if_pos hb1]
      · unfold mm_has; rw [if_neg (k2 m hM.1), if_neg ha0, if_neg ha8, if_pos hb1]
    by_cases hb8 : b ≤ (8 : Int32)
    · obtain ⟨n, hn, rfl⟩ := nI_of ha0
      have hb0 : ¬ b < 0 := fun q => hb1 (Int32.lt_trans q (by decide))
      obtain ⟨q, hq, rfl⟩ := nI_of hb0
      have hn8 : n ≤ 8 := Nat.le_of_not_lt (fun z => ha8 (nI_lt (a := 8) z hn))
      have hq8 : q ≤ 8 := (nI_leI (b := 8) hq (by decide)).mp hb8
      have hq1 : 1 ≤ q := by
        rcases Nat.eq_zero_or_pos q with z | z
        · subst z; exact absurd (show nI 0 < (1 : Int32) by decide) hb1
        · exact z
      obtain ⟨m1, e1, e2⟩ := ww_all (F := F) (x := x) (y := y) (n := n) (q := q) (m := m) hF hn8 hq8
      have g1 := wd_write_fr e1
      obtain ⟨m2, e3, e4⟩ := hs_b2 (F := F) (x := x) (y := y) (n := n) (w := n + q) (T := T) (PS := PS) (f := f) (kk := fun (m282 : xm_S) => xg_n (nI f) 28 (if ((m282.1 9 (nI f).toNatClampNeg) &&& (1 : Int32)) = 0 then some ((0 : Int32), m282) else some ((1 : Int32), m282))) hF (by omega) (by omega) (by omega) hW hfT (f + 1) F 0 m1 (by omega) (by omega) (bt_C_f hC g1 rfl rfl rfl rfl) (bt_P_f hP g1 rfl) e2 (fun p hp => by omega)
      have hv : hs_f T x y n (n + q) f % 2 = 0 ∨ hs_f T x y n (n + q) f % 2 = 1 := by omega
      have e3' : wd_beginsWith F (nI f) m1 = some (nI (hs_f T x y n (n + q) f % 2), m2) := by
        unfold wd_beginsWith
        refine Eq.trans e3 ?_
        rw [xg_nI (by omega) (by decide), nI_clamp hf, e4, nb_p0]
        rcases hv with z | z <;> rw [z] <;> rfl
      have eC : mk_has F (nI f) x (nI n) y (nI q) m = some (nI (hs_f T x y n (n + q) f % 2), m2) := by
        unfold mk_has
        rw [if_neg k1, if_neg ha0, if_neg ha8, if_neg hb1, if_pos hb8, e1]
        simp only [xc_v, e3', xc_s]
        rcases hv with z | z <;> rw [z] <;> rfl
      have g2 := mk_has_fr eC
      obtain ⟨m3, e5, e6⟩ := hs_m (F := F) (x := x) (y := y) (n := n) (w := n + q) (T := T) (f := f) (kk := fun (m1473 : xm_S) => xg_n (nI f) 28 (some ((m1473.1 57 (nI f).toNatClampNeg) &&& (1 : Int32), m1473))) hF (by omega) (by omega) (by omega) hn8 hW hfT (f + 1) F 0 m2 (by omega) (by omega) (bt_M_f hM g2 rfl rfl rfl rfl) (fun p hp => by omega)
      refine ⟨_, m2, m3, eC, ?_⟩
      unfold mm_has
      rw [if_neg (k2 m2 ((bt_M_f hM g2 rfl rfl rfl rfl).1)), if_neg ha0, if_neg ha8, if_neg hb1, if_pos hb8, nI_add, nb_m1 (by omega)]
      refine Eq.trans e5 ?_
      rw [xg_nI (by omega) (by decide), nI_clamp hf, e6, nb_p0]
    · refine ⟨-1, m, m, ?_, ?_⟩
      · unfold mk_has; rw [if_neg k1, if_neg ha0, if_neg ha8, if_neg hb1, if_neg hb8]
      · unfold mm_has; rw [if_neg (k2 m hM.1), if_neg ha0, if_neg ha8, if_neg hb1, if_neg hb8]
  · have hle : nI T.1 ≤ nI f := nI_le (by omega) hf
    refine ⟨-1, m, m, ?_, ?_⟩
    · unfold mk_has bk_knows; rw [hC.1, if_neg hv0, if_pos hle, if_pos rfl]
    · unfold mm_has mm_isFormula; rw [hM.1, if_neg hv0, if_pos hle, if_pos rfl]
