/-! The class: building the automaton, the whole. -/
theorem bc_2 {F f : Nat} {T : bo_T} {PS : Nat → Nat} {kk : Nat → xm_S → Option (Int32 × Nat × xm_S)} (hF : 100 < F) (hW : bt_W T) (hf : f < T.1) : ∀ (r l fu N : Nat) (m : xm_S), l + r = 16 → r < fu → bt_C T m → bt_P T PS m → kt_I T N m → (∀ l', l' < l → ok_w T PS l' f ∧ ∀ p, p ≤ f → (PS f).testBit p = true → ¬ m.1 12 (16 * p + l') = -1 ∧ ¬ m.1 12 (16 * p + l') = -2) →
    ∃ (N' : Nat) (m' : xm_S), N ≤ N' ∧ kt_I T N' m' ∧ xf_r fl_wt_learn m m' ∧ ((au_build_l2 F (nI f) kk fu (nI l) N m = kk N' m' ∧ (∀ l', l' < 16 → ok_w T PS l' f) ∧ kr_K T PS f N' m') ∨ (au_build_l2 F (nI f) kk fu (nI l) N m = some (0, N', m') ∧ ¬ ∀ l', l' < 16 → ok_w T PS l' f)) := by
  have h28 := hW.1
  intro r
  induction r with
  | zero =>
    intro l fu N m hl hfu hC hP hI hK
    obtain ⟨fu, rfl⟩ : ∃ g, fu = g + 1 := ⟨fu - 1, by omega⟩
    obtain rfl : l = 16 := by omega
    refine ⟨N, m, Nat.le_refl _, hI, xf_0, Or.inl ⟨?_, fun l' h => (hK l' h).1, fun l' h j hj => ?_⟩⟩
    · rw [au_build_l2, if_pos (show (16 : Int32) ≤ nI 16 by decide)]
    · have hp := (hP f hf).2.1
      have hjf : j ≤ f := by
        rcases Nat.lt_or_ge f j with z | z
        · rw [Nat.testBit_lt_two_pow (Nat.lt_of_lt_of_le hp (Nat.pow_le_pow_right (by decide) (by omega)))] at hj
          cases hj
        · exact z
      obtain ⟨a, b⟩ := (hK l' h).2 j hjf hj
      exact (kt_I_g hI (by omega) h a b).2
  | succ r ih =>
    intro l fu N m hl hfu hC hP hI hK
    obtain ⟨fu, rfl⟩ : ∃ g, fu = g + 1 := ⟨fu - 1, by omega⟩
    have hl16 : l < 16 := by omega
    rw [au_build_l2, if_neg (show ¬ (16 : Int32) ≤ nI l from nI_ge (b := 16) hl16 (by decide)), nI_1]
    obtain ⟨v, N1, m1, e1, e2, e3, e4, e5⟩ := wt_learns (F := F) hF hW hf hl16 hC hP hI
    have g1 := wt_learn_fr e1
    rw [e1]
    simp only [xc_a, Nat.ble_eq_true_of_le e2, cond_true]
    rcases e5 with ⟨v1, v2, v3⟩ | ⟨v0, v2⟩
    · rw [if_neg (by rw [v1]; decide)]
      obtain ⟨N', m', d1, d2, d3, d4⟩ := ih (l + 1) fu N1 m1 (by omega) (by omega) (bt_C_f hC g1 rfl rfl rfl rfl) (bt_P_f hP g1 rfl) e3 (fun l' h => by
        by_cases e : l' = l
        · subst e; exact ⟨v2, v3⟩
        · obtain ⟨a, b⟩ := hK l' (by omega)
          refine ⟨a, fun p h1 h2 => ?_⟩
          rw [e4 _ (b p h1 h2).1]
          exact b p h1 h2)
      exact ⟨N', m', Nat.le_trans e2 d1, d2, xf_t g1 d3, d4⟩
    · rw [if_pos v0]
      exact ⟨N1, m1, e2, e3, g1, Or.inr ⟨rfl, fun z => v2 (z l hl16)⟩⟩
theorem kt_I_x {T : bo_T} {N : Nat} {m m' : xm_S} {L : List Nat} (h : kt_I T N m) (g : xf_r L m m') (h10 : xf_in L 10 = false) (h11 : xf_in L 11 = false) (h12 : xf_in L 12 = false) (h13 : L.elem 13 = false) (h58 : L.elem 58 = false) : kt_I T N m' := by
  obtain ⟨i1, used, i2, i3, i4, i5⟩ := h
  refine ⟨i1, used, by rw [(g 10 h10).1, i2], i3, by rw [(g 12 h12).1]; exact i4, fun k' l' hk' hl' => ?_⟩
  rcases i5 k' l' hk' hl' with y | ⟨y1, y2 | ⟨q', s', y2, y3⟩⟩
  · exact Or.inl (by rw [(g 12 h12).1, y])
  · exact Or.inr ⟨y1, Or.inl ⟨by rw [(g 12 h12).1, y2.1], y2.2⟩⟩
  · exact Or.inr ⟨y1, Or.inr ⟨q', s', kt_G_x y2 g h11 h12 h13 h58, y3⟩⟩
-- the automaton of f has room
def au_K (T : bo_T) (PS : Nat → Nat) (f : Nat) : Prop := (∀ l, l < 16 → ok_w T PS l f) ∧ af_K T (ut_w T (PS f) (f + 1)) f
def au_C (T : bo_T) (PS : Nat → Nat) (f : Nat) (q : Nat → Nat × Nat) (n : Nat) (m : xm_S) : Prop := al_C T (ut_w T (PS f) (f + 1)) f q n m ∧ 0 < n ∧ q 0 = (2 ^ f, 0) ∧ ∀ s l, s < n → l < 16 → rw_C T (ut_w T (PS f) (f + 1)) q n m s l
theorem bc_all {F N f : Nat} {T : bo_T} {PS : Nat → Nat} {m : xm_S} (hF : 100 < F) (hW : bt_W T) (hC : bt_C T m) (hP : bt_P T PS m) (hI : kt_I T N m) (hf : f < T.1) :
    ∃ (v : Int32) (N' : Nat) (m' : xm_S), au_build F N (nI f) m = some (v, N', m') ∧ N ≤ N' ∧ kt_I T N' m' ∧ ((v = 1 ∧ au_K T PS f ∧ ∃ q n, au_C T PS f q n m') ∨ (v = 0 ∧ ¬ au_K T PS f)) := by
  have h28 := hW.1
  have hU := ut_w_le (T := T) (S := PS f) (f + 1)
  have hr := fun s hs => au_r_b (U := ut_w T (PS f) (f + 1)) hW hP hf s hs
  have hb : ∀ t, au_r T (ut_w T (PS f) (f + 1)) f t → sq_b t ∧ t.2 ≤ (ut_w T (PS f) (f + 1)).1 := fun t ht => by
    obtain ⟨⟨a, b⟩, c⟩ := hr t ht
    refine ⟨⟨Nat.lt_of_lt_of_le a (Nat.pow_le_pow_right (by decide) (by omega)), ?_⟩, c⟩
    have := hU.1
    omega
  unfold au_build
  obtain ⟨N1, m1, a1, a2, a3, a4⟩ := bc_2 (F := F) (kk := fun (n533 : Nat) (m532 : xm_S) => xc_v (au_listUntils F (nI f) m532) fun m554 => xg_n (0 : Int32) 16 (xs_m (xw_i m554 22 (0 : Int32).toNatClampNeg ((1 : Int32) <<< ((nI f) &&& 31))) fun m558 => xg_n (0 : Int32) 16 (xs_m (xw_i m558 23 (0 : Int32).toNatClampNeg (0 : Int32)) fun m561 => xs_m (xw_i m561 20 6 (1 : Int32)) fun m563 => au_build_l56 F (fun (n696 : Nat) (m695 : xm_S) => some ((1 : Int32), n696, m695)) F (0 : Int32) n533 m563))) hF hW hf 16 0 F N m (by omega) (by omega) hC hP hI (fun l' h => by omega)
  rcases a4 with ⟨b1, b2, b3⟩ | ⟨b1, b2⟩
  · have b1' : au_build_l2 F (nI f) _ F (0 : Int32) N m = _ := b1
    rw [b1']
    obtain ⟨m2, c1, c2, c3⟩ := uc_all (F := F) hF hW hf (bt_C_f hC a3 rfl rfl rfl rfl) (bt_P_f hP a3 rfl)
    have g2 := au_listUntils_fr c1
    rw [c1]
    simp only [xc_v, xg_0 (show 0 < 16 by decide) (show 16 < 2 ^ 31 by decide), nz_0, xs_m]
    rw [nb_one (by omega)]
    have g3 : xf_r [20, 22, 23] m2 (xw_i (xw_i (xw_i m2 22 0 (nI (2 ^ f))) 23 0 0) 20 6 1) := xf_t (xf_t (xf_i rfl) (xf_i rfl)) (xf_i rfl)
    have g4 : xf_r [20, 21, 22, 23] m1 (xw_i (xw_i (xw_i m2 22 0 (nI (2 ^ f))) 23 0 0) 20 6 1) := xf_t (xf_s rfl g2) (xf_s rfl g3)
    obtain ⟨m3, d1, d2⟩ := bc_56 (F := F) (N := N1) (f := f) (T := T) (PS := PS) (U := ut_w T (PS f) (f + 1)) (kk := fun (n696 : Nat) (m695 : xm_S) => some ((1 : Int32), n696, m695)) hF a2.1 (by have := hU.1; omega) (fun i hi => by have := hU.2 i hi; omega) hb (fun t ht j hj => ((hr t ht).1.2 j hj).1) 16 0 F 1 (fun _ => (2 ^ f, 0)) (xw_i (xw_i (xw_i m2 22 0 (nI (2 ^ f))) 23 0 0) 20 6 1) (by omega) (by omega) (by
      refine ⟨⟨xi_s, by decide, fun i hi => ?_⟩, fun i j hi hj _ => by omega, fun i hi => au_r_z, ?_, fun i hi => ?_⟩
      · obtain rfl : i = 0 := by omega
        refine ⟨(hb _ au_r_z).1, ?_, ?_⟩
        · rw [xi_k (by decide), xi_k (by decide), xi_s]
        · rw [xi_k (by decide), xi_s]; rfl
      · rw [xi_j (by decide), xi_k (by decide), xi_k (by decide), c2.1]
      · rw [(g3 21 rfl).1]; exact c2.2 i hi) (by omega) (fun l' hl' j hj => by
      obtain ⟨c, e, hk⟩ := b3 l' hl' j hj
      exact ⟨c, e, kt_G_x hk g4 rfl rfl rfl rfl⟩) (fun s' l' h => by omega)
    have hI3 : kt_I T N1 m3 := kt_I_x (kt_I_x a2 g4 rfl rfl rfl rfl rfl) d1.1 rfl rfl rfl rfl rfl
    rcases d2 with ⟨q, n, y1, y2, y3, y4⟩ | ⟨y1, y2⟩
    · have hz : q 0 = (2 ^ f, 0) := y2.2 0 (by decide)
      have hn := y2.1
      have hall := af_all (T := T) (U := ut_w T (PS f) (f + 1)) (f := f) (n := n) (q := q) (by omega) hz (fun i hi l hl x hx => by
        obtain ⟨-, A, G, -, -, hS⟩ := y4 i l hi hl
        exact hS.2.2.2 x hx)
      refine ⟨1, N1, m3, y1, a1, hI3, Or.inl ⟨rfl, ⟨b2, ⟨n, q, y3.1.2.1, hall⟩, fun s hs l hl => ?_⟩, q, n, y3, by omega, hz, y4⟩⟩
      obtain ⟨i, hi, e⟩ := hall s hs
      rw [← e]
      exact (y4 i l hi hl).1
    · exact ⟨0, N1, m3, y1, a1, hI3, Or.inr ⟨rfl, fun z => y2 z.2⟩⟩
  · exact ⟨0, N1, m1, b1, a1, a2, Or.inr ⟨rfl, fun z => b2 z.1⟩⟩
