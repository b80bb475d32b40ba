/-! Duals, the class's side. -/
-- what the class has kept of duals
def bd_I (T : bo_T) (m : xm_S) : Prop := ∀ j, j < 28 → m.1 6 j = -1 ∨ (j < T.1 ∧ ∃ d, d < 28 ∧ m.1 6 j = nI d ∧ bt_D 28 T j = (some d, T))
theorem bd_I_X {T T' : bo_T} {m m' : xm_S} (hW : bt_W T) (hW' : bt_W T') (hX : bt_X T T') (h6 : ∀ j, m'.1 6 j = m.1 6 j) (h : bd_I T m) : bd_I T' m' := by
  intro j hj
  rw [h6 j]
  rcases h j hj with q | ⟨q1, d, q2, q3, q4⟩
  · exact Or.inl q
  · refine Or.inr ⟨Nat.lt_of_lt_of_le q1 hX.1, d, q2, q3, ?_⟩
    have hc := hW.1
    exact bt_D_st 28 T j d hW q1 (by omega) (by rw [q4]) T' hW' (by rw [q4]; exact hX) 28 (by omega)
theorem bt_i_n {o : Option Nat} (h : ∀ d, o = some d → d < 28) : (bt_i o = -2 ↔ o = none) := by
  cases o with
  | none => exact ⟨fun _ => rfl, fun _ => rfl⟩
  | some d =>
    refine ⟨fun q => ?_, fun q => by cases q⟩
    have hd := h d rfl
    have : ∀ d, d < 28 → ¬ nI d = -2 := by decide
    exact absurd q (this d hd)
theorem nI_m1 {d : Nat} (h : d < 28) : ¬ nI d = -1 := by
  have : ∀ d, d < 28 → ¬ nI d = -1 := by decide
  exact this d h
theorem bt_D_u {T : bo_T} {f : Nat} (hW : bt_W T) (hf : f < T.1) : bt_D 28 T f = if 4 ≤ T.2.1 f then
      (match (bt_D 28 T (T.2.2.1 f)).1 with
      | none => (none, (bt_D 28 T (T.2.2.1 f)).2)
      | some a => if T.2.1 f = 4 ∨ T.2.1 f = 5 ∨ T.2.1 f = 7 ∨ T.2.1 f = 8 then
          (match (bt_D 28 (bt_D 28 T (T.2.2.1 f)).2 (T.2.2.2 f)).1 with
          | none => (none, (bt_D 28 (bt_D 28 T (T.2.2.1 f)).2 (T.2.2.2 f)).2)
          | some b => bt_mk (bt_D 28 (bt_D 28 T (T.2.2.1 f)).2 (T.2.2.2 f)).2 (bt_k (T.2.1 f)) a b)
        else bt_mk (bt_D 28 T (T.2.2.1 f)).2 (bt_k (T.2.1 f)) a 0)
    else bt_mk T (bt_k (T.2.1 f)) (T.2.2.1 f) 0 := by
  have hc := hW.1
  rw [bt_D_n 28 29 T f hW hf (by omega) (by omega)]
  rw [bt_D]
  rfl
theorem bt_D_28 {T : bo_T} {f : Nat} (hW : bt_W T) (hf : f < T.1) : bt_W (bt_D 28 T f).2 ∧ bt_X T (bt_D 28 T f).2 ∧ ∀ d, (bt_D 28 T f).1 = some d → d < 28 := by
  have hc := hW.1
  obtain ⟨h1, h2, h3⟩ := bt_D_W 28 T f hW hf (by omega)
  exact ⟨h1, h2, fun d hd => by have := h3 d hd; have := h1.1; omega⟩
-- the last step of a dual: make it, keep it
theorem bk_dfin {F f a b : Nat} {T T2 : bo_T} {PS2 : Nat → Nat} {m2 : xm_S} (hF : 28 < F) (hW : bt_W T) (hf : f < T.1) (hW2 : bt_W T2) (hX : bt_X T T2) (hC : bt_C T2 m2) (hP : bt_P T2 PS2 m2) (hI : bd_I T2 m2) (hG : bt_G T2 (bt_k (T.2.1 f)) a b) (hD : bt_D 28 T f = bt_mk T2 (bt_k (T.2.1 f)) a b) :
    ∃ (m' : xm_S) (PS' : Nat → Nat), (xc_m (bk_build F (nI (bt_k (T.2.1 f))) (nI a) (nI b) m2) fun v m => if v = (-2 : Int32) then some (v, m) else some (v, xw_i m 6 f v)) = some (bt_i (bt_D 28 T f).1, m') ∧ bt_C (bt_D 28 T f).2 m' ∧ bt_P (bt_D 28 T f).2 PS' m' ∧ bd_I (bt_D 28 T f).2 m' ∧ (∀ j, j < T2.1 → PS' j = PS2 j) := by
  obtain ⟨m3, PS3, e1, e2, e3, e4⟩ := bk_mk hW2 hC hP hG hF
  have g := bk_build_fr e1
  obtain ⟨v1, v2⟩ := bt_mk_W hW2 hG
  have hI3 : bd_I (bt_mk T2 (bt_k (T.2.1 f)) a b).2 m3 := bd_I_X hW2 v1 v2 (fun j => by rw [(g 6 rfl).1]) hI
  rw [hD, e1]
  show ∃ (m' : xm_S) (PS' : Nat → Nat), (if bt_i (bt_mk T2 (bt_k (T.2.1 f)) a b).1 = (-2 : Int32) then some (bt_i (bt_mk T2 (bt_k (T.2.1 f)) a b).1, m3) else some (bt_i (bt_mk T2 (bt_k (T.2.1 f)) a b).1, xw_i m3 6 f (bt_i (bt_mk T2 (bt_k (T.2.1 f)) a b).1))) = _ ∧ _
  have h28 : ∀ d, (bt_mk T2 (bt_k (T.2.1 f)) a b).1 = some d → d < 28 := fun d hd => by have := (bt_mk_at hd).1; have := v1.1; omega
  cases hr : (bt_mk T2 (bt_k (T.2.1 f)) a b).1 with
  | none =>
    rw [if_pos (by rfl)]
    exact ⟨m3, PS3, rfl, e2, e3, hI3, e4⟩
  | some d =>
    have hd := h28 d hr
    rw [if_neg (fun q => by have := (bt_i_n (o := some d) (fun x hx => by cases hx; exact hd)).mp q; cases this)]
    refine ⟨_, PS3, rfl, ?_, ?_, ?_, e4⟩
    · unfold bt_C bo_C at e2 ⊢
      rw [xi_k (show (1 : Nat) ≠ 6 by decide), xi_k (show (2 : Nat) ≠ 6 by decide), xi_k (show (3 : Nat) ≠ 6 by decide), xi_k (show (4 : Nat) ≠ 6 by decide)]
      exact e2
    · unfold bt_P bo_P at e3 ⊢
      rw [xi_k (show (5 : Nat) ≠ 6 by decide)]
      exact e3
    · intro j hj
      by_cases e : j = f
      · subst e
        rw [xi_s]
        refine Or.inr ⟨Nat.lt_of_lt_of_le hf (bt_X_t hX v2).1, d, hd, rfl, ?_⟩
        have hc := hW.1
        exact bt_D_st 28 T j d hW hf (by omega) (by rw [hD]; exact hr) _ v1 (by rw [hD]; exact bt_X_r) 28 (by omega)
      · rw [xi_j e]
        exact hI3 j hj
theorem bk_dual {F : Nat} {xt : Nat → Nat × (Nat → Int32)} (hxt : xt 1 = (9, xm_dk)) (hF : 28 < F) : ∀ (fu f dp : Nat) (m : xm_S) (T : bo_T) (PS : Nat → Nat), f < fu → f < T.1 → dp + f < 28 → bt_W T → bt_C T m → bt_P T PS m → bd_I T m →
    ∃ (m' : xm_S) (PS' : Nat → Nat), bk_buildDual F xt fu (nI f) (nI dp) m = some (bt_i (bt_D 28 T f).1, m') ∧ bt_C (bt_D 28 T f).2 m' ∧ bt_P (bt_D 28 T f).2 PS' m' ∧ bd_I (bt_D 28 T f).2 m' ∧ (∀ j, j < T.1 → PS' j = PS j) := by
  intro fu
  induction fu with
  | zero => intro f dp m T PS h; omega
  | succ fu ih =>
    intro f dp m T PS hfu hf hdp hW hC hP hI
    have hc28 : T.1 ≤ 28 := hW.1
    obtain ⟨w1, w2, w3, w4, w5, w6, -⟩ := hW.2 f hf
    obtain ⟨c1, c2, c3⟩ := hC.2 f hf
    rw [bk_buildDual]
    have hcf : (nI f).toNatClampNeg = f := nI_clamp (by omega)
    have hck : (nI (T.2.1 f)).toNatClampNeg = T.2.1 f := nI_clamp (by omega)
    have hg : ∀ {β : Type} {o : Option β}, xg_n (nI f) 28 o = o := fun {β o} => xg_nI (by omega) (by decide)
    have hgk : ∀ {β : Type} {o : Option β}, xg_n (nI (T.2.1 f)) 9 o = o := fun {β o} => xg_nI (by omega) (by decide)
    have hdk : xm_dk (T.2.1 f) = nI (bt_k (T.2.1 f)) := (bt_k_f _ w1).2.2.2.2.2.1
    rw [if_pos (show nI dp < (28 : Int32) from nI_lt (b := 28) (by omega) (by decide))]
    simp only [hg, hcf, hck, hgk, c1, c2, c3, xs_m, xj_j, hxt, hdk]
    rcases hI f (by omega) with hm1 | ⟨-, d, hd28, hmd, hDd⟩
    · rw [if_pos hm1]
      have hDu := bt_D_u hW hf
      have hs2 : nI dp + 1 = nI (dp + 1) := nI_1 dp
      have nn : ∀ d, d < 28 → ¬ nI d = (-2 : Int32) := by decide
      by_cases q4 : 4 ≤ T.2.1 f
      · rw [if_neg (fun q => absurd ((bk_parts w1).mp q) (by omega))]
        rw [if_pos q4] at hDu
        have hA : T.2.2.1 f < f := w4 q4
        obtain ⟨m1, PS1, a1, a2, a3, a4, a5⟩ := ih (T.2.2.1 f) (dp + 1) m T PS (by omega) (by omega) (by omega) hW hC hP hI
        obtain ⟨d1, d2, d3⟩ := bt_D_28 hW (show T.2.2.1 f < T.1 by omega)
        rw [hs2, a1]
        dsimp only [xc_m]
        cases hr : (bt_D 28 T (T.2.2.1 f)).1 with
        | none =>
          rw [hr] at hDu
          dsimp only at hDu
          rw [hDu]
          show ∃ (m' : xm_S) (PS' : Nat → Nat), _ = some ((-2 : Int32), m') ∧ _
          simp only [show bt_i none = (-2 : Int32) from rfl, if_true]
          by_cases q2 : bk_hasTwoParts (nI (T.2.1 f)) = 0
          · rw [if_pos q2]
            exact ⟨m1, PS1, rfl, a2, a3, a4, a5⟩
          · rw [if_neg q2]
            exact ⟨m1, PS1, rfl, a2, a3, a4, a5⟩
        | some a =>
          rw [hr] at hDu
          dsimp only at hDu
          have ha28 := d3 a hr
          have hna : ¬ nI a = (-2 : Int32) := nn a ha28
          simp only [show bt_i (some a) = nI a from rfl, hna, if_false]
          by_cases q2 : T.2.1 f = 4 ∨ T.2.1 f = 5 ∨ T.2.1 f = 7 ∨ T.2.1 f = 8
          · rw [if_neg (fun q => (bk_two w1).mp q q2)]
            rw [if_pos q2] at hDu
            have hB : T.2.2.2 f < f := w5 q2
            obtain ⟨m2, PS2, b1, b2, b3, b4, b5⟩ := ih (T.2.2.2 f) (dp + 1) m1 (bt_D 28 T (T.2.2.1 f)).2 PS1 (by omega) (Nat.lt_of_lt_of_le (by omega) d2.1) (by omega) d1 a2 a3 a4
            obtain ⟨f1, f2, f3⟩ := bt_D_28 d1 (show T.2.2.2 f < (bt_D 28 T (T.2.2.1 f)).2.1 from Nat.lt_of_lt_of_le (by omega) d2.1)
            rw [b1]
            dsimp only
            cases hs : (bt_D 28 (bt_D 28 T (T.2.2.1 f)).2 (T.2.2.2 f)).1 with
            | none =>
              rw [hs] at hDu
              dsimp only at hDu
              rw [hDu]
              exact ⟨m2, PS2, rfl, b2, b3, b4, fun j hj => (b5 j (Nat.lt_of_lt_of_le hj d2.1)).trans (a5 j hj)⟩
            | some b =>
              rw [hs] at hDu
              dsimp only at hDu
              have hb28 := f3 b hs
              simp only [show bt_i (some b) = nI b from rfl, nn b hb28, if_false]
              have hG : bt_G (bt_D 28 (bt_D 28 T (T.2.2.1 f)).2 (T.2.2.2 f)).2 (bt_k (T.2.1 f)) a b := by
                have u1 := (bt_D_W 28 T (T.2.2.1 f) hW (by omega) (by omega)).2.2 a hr
                have u2 := (bt_D_W 28 (bt_D 28 T (T.2.2.1 f)).2 (T.2.2.2 f) d1 (Nat.lt_of_lt_of_le (by omega) d2.1) (by omega)).2.2 b hs
                exact bt_Gk w1 (fun q => by omega) (fun q => by omega) (fun _ => Nat.lt_of_lt_of_le u1 f2.1) (fun _ => u2) (fun q => absurd q2 q)
              obtain ⟨m', PS', r1, r2, r3, r4, r5⟩ := bk_dfin hF hW hf f1 (bt_X_t d2 f2) b2 b3 b4 hG hDu
              exact ⟨m', PS', r1, r2, r3, r4, fun j hj => (r5 j (Nat.lt_of_lt_of_le hj (bt_X_t d2 f2).1)).trans ((b5 j (Nat.lt_of_lt_of_le hj d2.1)).trans (a5 j hj))⟩
          · rw [if_pos ((bk_two w1).mpr q2)]
            rw [if_neg q2] at hDu
            have hB0 : T.2.2.2 f = 0 := w6 q2
            rw [hB0, if_neg (by decide)]
            have u1 := (bt_D_W 28 T (T.2.2.1 f) hW (by omega) (by omega)).2.2 a hr
            have hG : bt_G (bt_D 28 T (T.2.2.1 f)).2 (bt_k (T.2.1 f)) a 0 := bt_Gk w1 (fun q => by omega) (fun q => by omega) (fun _ => u1) (fun q => absurd q q2) (fun _ => rfl)
            obtain ⟨m', PS', r1, r2, r3, r4, r5⟩ := bk_dfin hF hW hf d1 d2 a2 a3 a4 hG hDu
            exact ⟨m', PS', r1, r2, r3, r4, fun j hj => (r5 j (Nat.lt_of_lt_of_le hj d2.1)).trans (a5 j hj)⟩
      · rw [if_pos ((bk_parts w1).mpr (by omega))]
        rw [if_neg q4] at hDu
        have q2 : ¬ bo_two (T.2.1 f) := by unfold bo_two; omega
        have hB0 : T.2.2.2 f = 0 := w6 q2
        have hA28 := ((bo_W.S hW).2 f hf).2.1
        rw [if_pos ((bk_two w1).mpr q2), hB0, if_neg (nn _ hA28), if_neg (by decide)]
        have hG : bt_G T (bt_k (T.2.1 f)) (T.2.2.1 f) 0 := bt_Gk w1 w2 w3 (fun q => absurd q q4) (fun q => absurd q q2) (fun _ => rfl)
        exact bk_dfin hF hW hf hW bt_X_r hC hP hI hG hDu
    · rw [if_neg (by rw [hmd]; exact nI_m1 hd28), hmd]
      have e : bt_D 28 T f = (some d, T) := hDd
      rw [e]
      exact ⟨m, PS, rfl, hC, hP, hI, fun _ _ => rfl⟩
