/-! The table of ways, and learning. -/
def kn_c (g : Nat → Int32) : Nat → Nat
  | 0 => 0
  | c + 1 => kn_c g c + (if g c = -1 then 0 else 1)
theorem kn_le (g : Nat → Int32) : ∀ c, kn_c g c ≤ c
  | 0 => Nat.le_refl _
  | c + 1 => by
    rw [kn_c]
    have := kn_le g c
    split <;> omega
theorem kn_o {g h : Nat → Int32} : ∀ {c : Nat}, (∀ i, i < c → h i = g i) → kn_c h c = kn_c g c
  | 0, _ => rfl
  | c + 1, e => by rw [kn_c, kn_c, kn_o (fun i hi => e i (by omega)), e c (by omega)]
theorem kn_up {g h : Nat → Int32} {a : Nat} : ∀ {c : Nat}, a < c → g a = -1 → h a ≠ -1 → (∀ i, i ≠ a → h i = g i) → kn_c h c = kn_c g c + 1
  | 0, ha, _, _, _ => by omega
  | c + 1, ha, h1, h2, h3 => by
    rw [kn_c, kn_c]
    by_cases e : a = c
    · subst e
      rw [kn_o (fun i hi => h3 i (by omega)), if_neg h2, if_pos h1]
    · rw [kn_up (by omega) h1 h2 h3, h3 c (fun q => e q.symm)]
      omega
def kt_r (T : bo_T) (N used k l : Nat) (m : xm_S) : Prop := m.1 12 (16 * k + l) = -1 ∨ (k < T.1 ∧ ((m.1 12 (16 * k + l) = -2 ∧ ¬ sm_P (wp_f T l k)) ∨ ∃ q s, kt_G N k l (wp_f T l k) q s m ∧ s + q ≤ used))
def kt_I (T : bo_T) (N : Nat) (m : xm_S) : Prop := N ≤ 6 ∧ ∃ used, m.1 10 4 = nI used ∧ used ≤ xk_l N ∧ used ≤ 60 * kn_c (m.1 12) 448 ∧ ∀ k l, k < 28 → l < 16 → kt_r T N used k l m
theorem nq_1 {q : Nat} (h : q ≤ 60) : ¬ nI q = -1 ∧ ¬ nI q = -2 := by
  have : ∀ q, q ≤ 60 → ¬ nI q = -1 ∧ ¬ nI q = -2 := by decide
  exact this q h
theorem kt_I_g {T : bo_T} {N k l : Nat} {m : xm_S} (h : kt_I T N m) (hk : k < 28) (hl : l < 16) (h1 : ¬ m.1 12 (16 * k + l) = -1) (h2 : ¬ m.1 12 (16 * k + l) = -2) : k < T.1 ∧ ∃ q s, kt_G N k l (wp_f T l k) q s m := by
  obtain ⟨-, used, -, -, -, hr⟩ := h
  rcases hr k l hk hl with z | ⟨z1, z2 | ⟨q, s, z2, -⟩⟩
  · exact absurd z h1
  · exact absurd z2.1 h2
  · exact ⟨z1, q, s, z2⟩
theorem kt_G_w {N f l q s : Nat} {Q : Int64 → Prop} {m m' : xm_S} (h1 : m'.1 12 (16 * f + l) = m.1 12 (16 * f + l)) (h2 : m'.1 11 (16 * f + l) = m.1 11 (16 * f + l)) (h3 : ∀ i, i < q → m'.2 (xk_c N) (s + i) = m.2 (xk_c N) (s + i)) (h : kt_G N f l Q q s m) : kt_G N f l Q q s m' := by
  obtain ⟨k1, k2, k3, k4, k5⟩ := h
  exact ⟨by rw [h1, k1], by rw [h2, k2], k3, k4, en_f h3 k5⟩
-- putting one row down
theorem kt_put {T : bo_T} {N k l q used : Nat} {m : xm_S} (hN : N ≤ 6) (hT : T.1 ≤ 28) (hk : k < T.1) (hl : l < 16) (h1 : m.1 10 4 = nI used) (h2 : used + q ≤ xk_l N) (h3 : used ≤ 60 * kn_c (m.1 12) 448) (h4 : ∀ k l, k < 28 → l < 16 → kt_r T N used k l m) (h5 : m.1 12 (16 * k + l) = -1) (h6 : m.1 14 1 = nI q) (hq : q ≤ 60) (h7 : en_P (wp_f T l k) q (m.2 15)) :
    ∃ m' : xm_S, (xg_c (0 : Int32) (m.1 10 4) (m.1 14 1) 60 (xk_l N) (xs_m (xw_c m (xk_c N) 15 (0 : Int32).toNatClampNeg (m.1 10 4).toNatClampNeg (m.1 14 1).toNatClampNeg) fun m467 => xg_n (nI (16 * k + l)) 448 (xs_m (xw_i m467 11 (nI (16 * k + l)).toNatClampNeg (m467.1 10 4)) fun m470 => xg_n (nI (16 * k + l)) 448 (xs_m (xw_i m470 12 (nI (16 * k + l)).toNatClampNeg (m470.1 14 1)) fun m473 => xs_m (xw_i m473 10 4 ((m473.1 10 4) + (m473.1 14 1))) fun m475 => some (N, m475))))) = some (N, m') ∧ kt_I T N m' ∧ (∃ s, kt_G N k l (wp_f T l k) q s m') ∧ (∀ c, c ≠ 16 * k + l → m'.1 12 c = m.1 12 c) := by
  have hx := xk_l_6 hN
  have hcl : (nI (16 * k + l)).toNatClampNeg = 16 * k + l := nI_clamp (by omega)
  have hcu : (nI used).toNatClampNeg = used := nI_clamp (by omega)
  have hcq : (nI q).toNatClampNeg = q := nI_clamp (by omega)
  have hg : ∀ {β : Type} {o : Option β}, xg_n (nI (16 * k + l)) 448 o = o := fun {β o} => xg_nI (by omega) (by decide)
  unfold xg_c
  rw [h1, h6, hcl, hcu, hcq, if_pos ⟨by decide, nI_pos (by omega), nI_pos (by omega), by show 0 + q ≤ 60; omega, h2⟩]
  simp only [xs_m, hg]
  have r2 : ∀ (z : Nat → Nat → Int64) j, (xw_c m (xk_c N) 15 0 used q).2 (xk_c N) j = va_cpy (m.2 15) (m.2 (xk_c N)) 0 used q j := fun _ j => by
    show xc_y m.2 (xk_c N) _ (xk_c N) j = _
    simp [xc_y]
  have a1 : (xw_i (xw_c m (xk_c N) 15 0 used q) 11 (16 * k + l) (nI used)).1 14 1 = nI q := by rw [xi_k (by decide)]; exact h6
  have a0 : (xw_c m (xk_c N) 15 0 used q).1 10 4 = nI used := h1
  have a2 : (xw_i (xw_i (xw_c m (xk_c N) 15 0 used q) 11 (16 * k + l) (nI used)) 12 (16 * k + l) (nI q)).1 10 4 = nI used := by rw [xi_k (by decide), xi_k (by decide)]; exact h1
  have a3 : (xw_i (xw_i (xw_c m (xk_c N) 15 0 used q) 11 (16 * k + l) (nI used)) 12 (16 * k + l) (nI q)).1 14 1 = nI q := by rw [xi_k (by decide), a1]
  rw [show (0 : Int32).toNatClampNeg = 0 from rfl, a0, a1, a2, a3, nI_add]
  refine ⟨_, rfl, ?_, ?_, ?_⟩
  · refine ⟨hN, used + q, xi_s, h2, ?_, fun k' l' hk' hl' => ?_⟩
    · have : kn_c ((xw_i (xw_i (xw_i (xw_c m (xk_c N) 15 0 used q) 11 (16 * k + l) (nI used)) 12 (16 * k + l) (nI q)) 10 4 (nI (used + q))).1 12) 448 = kn_c (m.1 12) 448 + 1 := by
        refine kn_up (a := 16 * k + l) (by omega) h5 ?_ (fun i hi => ?_)
        · rw [xi_k (by decide), xi_s]; exact (nq_1 hq).1
        · rw [xi_k (by decide), xi_j hi, xi_k (by decide)]; rfl
      rw [this]; omega
    · by_cases e : 16 * k' + l' = 16 * k + l
      · have ek : k' = k := by omega
        have el : l' = l := by omega
        subst ek; subst el
        refine Or.inr ⟨hk, Or.inr ⟨q, used, ⟨?_, ?_, hq, h2, ?_⟩, Nat.le_refl _⟩⟩
        · rw [xi_k (by decide), xi_s]
        · rw [xi_k (by decide), xi_k (by decide), xi_s]
        · refine en_f (fun i hi => ?_) h7
          show (xw_c m (xk_c N) 15 0 used q).2 (xk_c N) (used + i) = _
          rw [r2 m.2, pk_cpy_in (by omega) (by omega), show 0 + (used + i - used) = i by omega]
      · have b12 : (xw_i (xw_i (xw_i (xw_c m (xk_c N) 15 0 used q) 11 (16 * k + l) (nI used)) 12 (16 * k + l) (nI q)) 10 4 (nI (used + q))).1 12 (16 * k' + l') = m.1 12 (16 * k' + l') := by rw [xi_k (by decide), xi_j e, xi_k (by decide)]; rfl
        have b11 : (xw_i (xw_i (xw_i (xw_c m (xk_c N) 15 0 used q) 11 (16 * k + l) (nI used)) 12 (16 * k + l) (nI q)) 10 4 (nI (used + q))).1 11 (16 * k' + l') = m.1 11 (16 * k' + l') := by rw [xi_k (by decide), xi_k (by decide), xi_j e]; rfl
        rcases h4 k' l' hk' hl' with z | ⟨z1, z2 | ⟨q', s', z2, z3⟩⟩
        · exact Or.inl (by rw [b12, z])
        · exact Or.inr ⟨z1, Or.inl ⟨by rw [b12, z2.1], z2.2⟩⟩
        · refine Or.inr ⟨z1, Or.inr ⟨q', s', kt_G_w b12 b11 (fun i hi => ?_) z2, by omega⟩⟩
          show (xw_c m (xk_c N) 15 0 used q).2 (xk_c N) (s' + i) = _
          rw [r2 m.2, pk_cpy_out (by omega)]
  · refine ⟨used, ⟨?_, ?_, hq, h2, ?_⟩⟩
    · rw [xi_k (by decide), xi_s]
    · rw [xi_k (by decide), xi_k (by decide), xi_s]
    · refine en_f (fun i hi => ?_) h7
      show (xw_c m (xk_c N) 15 0 used q).2 (xk_c N) (used + i) = _
      rw [r2 m.2, pk_cpy_in (by omega) (by omega), show 0 + (used + i - used) = i by omega]
  · intro c hc
    rw [xi_k (by decide), xi_j hc, xi_k (by decide)]
    rfl
-- a longer row
theorem kt_grow {N f l q s : Nat} {Q : Int64 → Prop} {m : xm_S} (hN : N ≤ 5) (h : kt_G N f l Q q s m) : kt_G (N + 1) f l Q q s (xw_g m N) := by
  obtain ⟨k1, k2, k3, k4, k5⟩ := h
  have hl : xk_l (N + 1) = 2 * xk_l N := by unfold xk_l; rw [Nat.pow_succ]; omega
  have e1 : ∀ a, a ≠ 58 + N → (xw_g m N).1 a = m.1 a := fun a ha => by
    show xz_2 m.1 (58 + N) 0 a = _
    funext b; simp [xz_2, ha]
  refine ⟨by rw [e1 12 (by omega), k1], by rw [e1 11 (by omega), k2], k3, by omega, en_f (fun i hi => ?_) k5⟩
  show xc_y (xz_2 m.2 (58 + N) 0) (58 + N) _ (58 + N) (s + i) = _
  have : xc_y (xz_2 m.2 (58 + N) 0) (58 + N) (va_cpy (m.2 (xk_c N)) (fun _ => 0) 0 0 (xk_l N)) (58 + N) (s + i) = va_cpy (m.2 (xk_c N)) (fun _ => 0) 0 0 (xk_l N) (s + i) := by simp [xc_y]
  rw [this, pk_cpy_in (by omega) (by omega), show 0 + (s + i - 0) = s + i by omega]
theorem wt_kf {F N k l : Nat} {T : bo_T} {m : xm_S} (hT : T.1 ≤ 28) (hk : k < T.1) (hl : l < 16) (hI : kt_I T N m) (h5 : m.1 12 (16 * k + l) = -1) (hP : cw_P 14 (wp_f T l k) m) :
    ∃ (N' : Nat) (m' : xm_S), wt_keepFound F N (nI (16 * k + l)) m = some (N', m') ∧ N ≤ N' ∧ kt_I T N' m' ∧ ((m'.1 12 (16 * k + l) = -2 ∧ ¬ sm_P (wp_f T l k)) ∨ (∃ q s, kt_G N' k l (wp_f T l k) q s m' ∧ sm_P (wp_f T l k))) ∧ (∀ c, c ≠ 16 * k + l → m'.1 12 c = m.1 12 c) := by
  obtain ⟨hN, used, h1, h2, h3, h4⟩ := hI
  have hx := xk_l_6 hN
  have hcl : (nI (16 * k + l)).toNatClampNeg = 16 * k + l := nI_clamp (by omega)
  unfold wt_keepFound
  rcases hP with ⟨q, g1, g2, g3, g4, g5⟩ | ⟨g1, g2⟩
  · have hen := cw_en g4 g5
    rw [if_pos g1]
    simp only [xj_j]
    rw [h1, g2, nI_add]
    by_cases z : used + q ≤ xk_l N
    · rw [if_pos (nI_le z (by omega))]
      obtain ⟨m', e1, e2, ⟨s, e3⟩, e4⟩ := kt_put hN hT hk hl h1 z h3 h4 h5 g2 g3 hen
      rw [h1, g2] at e1
      exact ⟨N, m', e1, Nat.le_refl _, e2, Or.inr ⟨q, s, e3, en_sm hen g3⟩, e4⟩
    · rw [if_neg (nI_ge (by omega) (by omega))]
      have hkn : kn_c (m.1 12) 448 ≤ 447 := by
        have e := kn_up (g := m.1 12) (h := fun i => if i = 16 * k + l then 0 else m.1 12 i) (a := 16 * k + l) (c := 448) (by omega) h5 (by simp) (fun i hi => by simp [hi])
        have := kn_le (fun i => if i = 16 * k + l then 0 else m.1 12 i) 448
        omega
      have hN5 : N ≤ 5 := by
        rcases Nat.lt_or_ge N 6 with y | y
        · omega
        · have : N = 6 := by omega
          subst this
          have : xk_l 6 = 32768 := by decide
          omega
      have hl2 : xk_l (N + 1) = 2 * xk_l N := by unfold xk_l; rw [Nat.pow_succ]; omega
      have hl1 : 512 ≤ xk_l N := by unfold xk_l; have := Nat.two_pow_pos N; omega
      unfold xg_y
      rw [if_pos ⟨by rw [hl2]; exact pk_mul 2 _, by omega⟩]
      simp only [xs_m]
      have e1 : ∀ a, a < 58 → (xw_g m N).1 a = m.1 a := fun a ha => by
        show xz_2 m.1 (58 + N) 0 a = _
        have : a ≠ 58 + N := by omega
        funext b; simp [xz_2, this]
      have e2 : (xw_g m N).2 15 = m.2 15 := by
        show xc_y (xz_2 m.2 (58 + N) 0) (58 + N) _ 15 = _
        have : 15 ≠ 58 + N := by omega
        funext b; simp [xc_y, xz_2, this]
      obtain ⟨m', f1, f2, ⟨s, f3⟩, f4⟩ := kt_put (T := T) (N := N + 1) (k := k) (l := l) (q := q) (used := used) (m := xw_g m N) (by omega) hT hk hl (by rw [e1 10 (by decide), h1]) (by omega) (by rw [e1 12 (by decide)]; exact h3) (fun k' l' hk' hl' => by
        rcases h4 k' l' hk' hl' with z | ⟨z1, z2 | ⟨q', s', z2, z3⟩⟩
        · exact Or.inl (by rw [e1 12 (by decide), z])
        · exact Or.inr ⟨z1, Or.inl ⟨by rw [e1 12 (by decide), z2.1], z2.2⟩⟩
        · exact Or.inr ⟨z1, Or.inr ⟨q', s', kt_grow hN5 z2, z3⟩⟩) (by rw [e1 12 (by decide), h5]) (by rw [e1 14 (by decide), g2]) g3 (by rw [e2]; exact hen)
      exact ⟨N + 1, m', f1, by omega, f2, Or.inr ⟨q, s, f3, en_sm hen g3⟩, fun c hc => by rw [f4 c hc, e1 12 (by decide)]⟩
  · rw [if_neg (by rw [g1]; decide), xg_nI (by omega) (by decide), hcl]
    simp only [xs_m]
    refine ⟨N, _, rfl, Nat.le_refl _, ⟨hN, used, by rw [xi_k (by decide), h1], h2, ?_, fun k' l' hk' hl' => ?_⟩, Or.inl ⟨xi_s, g2⟩, fun c hc => xi_j hc⟩
    · have : kn_c ((xw_i m 12 (16 * k + l) (-2)).1 12) 448 = kn_c (m.1 12) 448 + 1 := kn_up (a := 16 * k + l) (by omega) h5 (by rw [xi_s]; decide) (fun i hi => xi_j hi)
      omega
    · by_cases e : 16 * k' + l' = 16 * k + l
      · have ek : k' = k := by omega
        have el : l' = l := by omega
        subst ek; subst el
        exact Or.inr ⟨hk, Or.inl ⟨xi_s, g2⟩⟩
      · rcases h4 k' l' hk' hl' with z | ⟨z1, z2 | ⟨q', s', z2, z3⟩⟩
        · exact Or.inl (by rw [xi_j e, z])
        · exact Or.inr ⟨z1, Or.inl ⟨by rw [xi_j e, z2.1], z2.2⟩⟩
        · exact Or.inr ⟨z1, Or.inr ⟨q', s', kt_G_w (xi_j e) (by rw [xi_k (by decide)]) (fun i hi => rfl) z2, z3⟩⟩
-- all parts of f have room by this letter
def ok_w (T : bo_T) (PS : Nat → Nat) (l f : Nat) : Prop := ∀ p, p ≤ f → (PS f).testBit p = true → sm_P (wp_f T l p)
theorem wt_ln {F l f : Nat} {T : bo_T} {PS : Nat → Nat} {kk : Nat → xm_S → Option (Int32 × Nat × xm_S)} (hF : 100 < F) (hW : bt_W T) (hf : f < T.1) (hl : l < 16) : ∀ (r i fu N : Nat) (m : xm_S), i + r = f + 1 → r < fu → bt_C T m → bt_P T PS m → kt_I T N m → (∀ p, p < i → (PS f).testBit p = true → sm_P (wp_f T l p) ∧ ¬ m.1 12 (16 * p + l) = -1 ∧ ¬ m.1 12 (16 * p + l) = -2) →
    ∃ (N' : Nat) (m' : xm_S), N ≤ N' ∧ kt_I T N' m' ∧ (∀ c, ¬ m.1 12 c = -1 → m'.1 12 c = m.1 12 c) ∧ ((wt_learn_l2 F (nI f) (nI l) kk fu (nI i) N m = kk N' m' ∧ ok_w T PS l f ∧ ∀ p, p ≤ f → (PS f).testBit p = true → ¬ m'.1 12 (16 * p + l) = -1 ∧ ¬ m'.1 12 (16 * p + l) = -2) ∨ (wt_learn_l2 F (nI f) (nI l) kk fu (nI i) N m = some (0, N', m') ∧ ¬ ok_w T PS l f)) := by
  have h28 := hW.1
  intro r
  induction r with
  | zero =>
    intro i fu N m hi hfu hC hP hI hm
    obtain ⟨fu, rfl⟩ : ∃ g, fu = g + 1 := ⟨fu - 1, by omega⟩
    refine ⟨N, m, Nat.le_refl _, hI, fun _ _ => rfl, Or.inl ⟨?_, fun p h1 h2 => (hm p (by omega) h2).1, fun p h1 h2 => (hm p (by omega) h2).2⟩⟩
    rw [wt_learn_l2, if_pos (nI_lt (by omega) (by omega))]
  | succ r ih =>
    intro i fu N m hi hfu hC hP hI hm
    obtain ⟨fu, rfl⟩ : ∃ g, fu = g + 1 := ⟨fu - 1, by omega⟩
    have hi28 : i < 28 := by omega
    obtain ⟨p1, p2, p3⟩ := hP f hf
    have hps : PS f < 2 ^ 31 := Nat.lt_of_lt_of_le p2 (Nat.pow_le_pow_right (by decide) (by omega))
    rw [wt_learn_l2, if_neg (nI_nlt (by omega) (by omega))]
    unfold bk_isPart
    rw [xg_nI (by omega) (by decide), nI_clamp (by omega), p1]
    by_cases hb : (PS f).testBit i = true
    · rw [if_neg (fun q => by rw [(nb_t hps (by omega)).mp q] at hb; cases hb)]
      simp only [xc_s]
      rw [if_neg (show ¬ (1 : Int32) = 0 by decide), wc_n, xg_nI (show 16 * i + l < 448 by omega) (by decide), nI_clamp (show 16 * i + l < 2 ^ 31 by omega)]
      simp only [xj_j, xg_nI (show 16 * i + l < 448 by omega) (show 448 < 2 ^ 31 by decide)]
      have hk : i < T.1 := by omega
      have hpart := bo_tr hW hP hf i hk hb
      -- once it is known
      have go : ∀ (N1 : Nat) (m1 : xm_S), N ≤ N1 → kt_I T N1 m1 → bt_C T m1 → bt_P T PS m1 → ¬ m1.1 12 (16 * i + l) = -1 → (m1.1 12 (16 * i + l) = -2 → ¬ sm_P (wp_f T l i)) → (¬ m1.1 12 (16 * i + l) = -2 → sm_P (wp_f T l i)) → (∀ c, c ≠ 16 * i + l → m1.1 12 c = m.1 12 c) → (∀ c, ¬ m.1 12 c = -1 → m1.1 12 c = m.1 12 c) → ∃ (N' : Nat) (m' : xm_S), N ≤ N' ∧ kt_I T N' m' ∧ (∀ c, ¬ m.1 12 c = -1 → m'.1 12 c = m.1 12 c) ∧ (((if m1.1 12 (16 * i + l) = (-2 : Int32) then some ((0 : Int32), N1, m1) else wt_learn_l2 F (nI f) (nI l) kk fu (nI i + 1) N1 m1) = kk N' m' ∧ ok_w T PS l f ∧ ∀ p, p ≤ f → (PS f).testBit p = true → ¬ m'.1 12 (16 * p + l) = -1 ∧ ¬ m'.1 12 (16 * p + l) = -2) ∨ ((if m1.1 12 (16 * i + l) = (-2 : Int32) then some ((0 : Int32), N1, m1) else wt_learn_l2 F (nI f) (nI l) kk fu (nI i + 1) N1 m1) = some (0, N', m') ∧ ¬ ok_w T PS l f)) := by
        intro N1 m1 a1 a2 a3 a4 a5 a6 a7 a8 a9
        by_cases z : m1.1 12 (16 * i + l) = -2
        · rw [if_pos z]
          exact ⟨N1, m1, a1, a2, a9, Or.inr ⟨rfl, fun q => a6 z (q i (by omega) hb)⟩⟩
        · rw [if_neg z, nI_1]
          obtain ⟨N', m', b1, b2, b4, b3⟩ := ih (i + 1) fu N1 m1 (by omega) (by omega) a3 a4 a2 (fun p hp hpb => by
            by_cases e : p = i
            · subst e; exact ⟨a7 z, a5, z⟩
            · rw [a8 (16 * p + l) (by omega)]
              exact hm p (by omega) hpb)
          exact ⟨N', m', Nat.le_trans a1 b1, b2, fun c hc => by rw [b4 c (by rw [a9 c hc]; exact hc), a9 c hc], b3⟩
      by_cases z : m.1 12 (16 * i + l) = -1
      · rw [if_pos z]
        have part : ∀ j, j < i → j < 28 → (PS f).testBit j = true → ∃ q s, kt_G N j l (wp_f T l j) q s m := fun j hj hj2 hjb => (kt_I_g hI hj2 hl (hm j hj hjb).2.1 (hm j hj hjb).2.2).2
        obtain ⟨w1, w2, w3, w4, w5, w6, -⟩ := hW.2 i hk
        obtain ⟨m1, e1, e2, e3⟩ := wt_fd (F := F) (N := N) hF hI.1 hW hC hk hl (fun q => part _ (w4 (by unfold bo_two at q; omega)) (by have := w4 (by unfold bo_two at q; omega); omega) (hpart.1 (by unfold bo_two at q; omega))) (fun q => part _ (w5 q) (by have := w5 q; omega) (hpart.2 q))
        have g1 := wt_find_fr e1
        rw [e1]
        simp only [xc_v]
        have hI1 : kt_I T N m1 := by
          obtain ⟨i1, used, i2, i3, i4, i5⟩ := hI
          have c12 : m1.1 12 = m.1 12 := (e3 12 (by decide) (by decide)).1
          refine ⟨i1, used, by rw [(e3 10 (by decide) (by decide)).1, i2], i3, by rw [c12]; exact i4, fun k' l' hk' hl' => ?_⟩
          rcases i5 k' l' hk' hl' with y | ⟨y1, y2 | ⟨q', s', y2, y3⟩⟩
          · exact Or.inl (by rw [c12, y])
          · exact Or.inr ⟨y1, Or.inl ⟨by rw [c12, y2.1], y2.2⟩⟩
          · exact Or.inr ⟨y1, Or.inr ⟨q', s', kt_G_f (Or.inl rfl) y2 e3, y3⟩⟩
        obtain ⟨N2, m2, f1, f2, f3, f4, f5⟩ := wt_kf (F := F) h28 hk hl hI1 (by rw [(e3 12 (by decide) (by decide)).1, z]) e2
        have g2 := wt_keepFound_fr f1
        rw [f1]
        simp only [xc_av, Nat.ble_eq_true_of_le f2, cond_true]
        refine go N2 m2 f2 f3 (bt_C_f (bt_C_f hC g1 rfl rfl rfl rfl) g2 rfl rfl rfl rfl) (bt_P_f (bt_P_f hP g1 rfl) g2 rfl) ?_ ?_ ?_ (fun c hc => by rw [f5 c hc, (e3 12 (by decide) (by decide)).1]) (fun c hc => by rw [f5 c (fun e => hc (by rw [e]; exact z)), (e3 12 (by decide) (by decide)).1])
        · rcases f4 with y | ⟨q, s, y, -⟩
          · rw [y.1]; decide
          · rw [y.1]; exact (nq_1 y.2.2.1).1
        · intro y0
          rcases f4 with y | ⟨q, s, y, -⟩
          · exact y.2
          · rw [y.1] at y0; exact absurd y0 (nq_1 y.2.2.1).2
        · intro y0
          rcases f4 with y | ⟨q, s, y, y2⟩
          · exact absurd y.1 y0
          · exact y2
      · rw [if_neg z]
        obtain ⟨i1, used, i2, i3, i4, i5⟩ := hI
        refine go N m (Nat.le_refl _) ⟨i1, used, i2, i3, i4, i5⟩ hC hP z ?_ ?_ (fun _ _ => rfl) (fun _ _ => rfl)
        · intro y0
          rcases i5 i l hi28 hl with y | ⟨y1, y2 | ⟨q', s', y2, y3⟩⟩
          · exact absurd y z
          · exact y2.2
          · rw [y2.1] at y0; exact absurd y0 (nq_1 y2.2.2.1).2
        · intro y0
          rcases i5 i l hi28 hl with y | ⟨y1, y2 | ⟨q', s', y2, y3⟩⟩
          · exact absurd y z
          · exact absurd y2.1 y0
          · exact en_sm y2.2.2.2.2 y2.2.2.1
    · have hb0 : (PS f).testBit i = false := by cases h : (PS f).testBit i with
        | true => exact absurd h hb
        | false => rfl
      rw [if_pos ((nb_t hps (by omega)).mpr hb0)]
      simp only [xc_s, if_true]
      rw [nI_1]
      exact ih (i + 1) fu N m (by omega) (by omega) hC hP hI (fun p hp hpb => by
        by_cases e : p = i
        · subst e; rw [hb0] at hpb; cases hpb
        · exact hm p (by omega) hpb)
theorem wt_learns {F l f N : Nat} {T : bo_T} {PS : Nat → Nat} {m : xm_S} (hF : 100 < F) (hW : bt_W T) (hf : f < T.1) (hl : l < 16) (hC : bt_C T m) (hP : bt_P T PS m) (hI : kt_I T N m) : ∃ (v : Int32) (N' : Nat) (m' : xm_S), wt_learn F N (nI f) (nI l) m = some (v, N', m') ∧ N ≤ N' ∧ kt_I T N' m' ∧ (∀ c, ¬ m.1 12 c = -1 → m'.1 12 c = m.1 12 c) ∧ ((v = 1 ∧ ok_w T PS l f ∧ ∀ p, p ≤ f → (PS f).testBit p = true → ¬ m'.1 12 (16 * p + l) = -1 ∧ ¬ m'.1 12 (16 * p + l) = -2) ∨ (v = 0 ∧ ¬ ok_w T PS l f)) := by
  have h28 := hW.1
  obtain ⟨N', m', h1, h2, h4, h3 | h3⟩ := wt_ln (F := F) (kk := fun (n508 : Nat) (m507 : xm_S) => some ((1 : Int32), n508, m507)) hF hW hf hl (f + 1) 0 F N m (by omega) (by omega) hC hP hI (fun p hp => by omega)
  · exact ⟨1, N', m', h3.1, h1, h2, h4, Or.inl ⟨rfl, h3.2⟩⟩
  · exact ⟨0, N', m', h3.1, h1, h2, h4, Or.inr ⟨rfl, h3.2⟩⟩
