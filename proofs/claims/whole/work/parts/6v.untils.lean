/-! The UNTILs among the parts, both sides. -/
def ut_w (T : bo_T) (S : Nat) : Nat → Nat × (Nat → Nat)
  | 0 => (0, fun _ => 0)
  | k + 1 => if S.testBit k = true ∧ T.2.1 k = 7 then ((ut_w T S k).1 + 1, fun i => if i = (ut_w T S k).1 then k else (ut_w T S k).2 i) else ut_w T S k
theorem ut_w_p {T : bo_T} {S k : Nat} (h : S.testBit k = true ∧ T.2.1 k = 7) : ut_w T S (k + 1) = ((ut_w T S k).1 + 1, fun i => if i = (ut_w T S k).1 then k else (ut_w T S k).2 i) := by
  rw [ut_w, if_pos h]
theorem ut_w_n {T : bo_T} {S k : Nat} (h : ¬ (S.testBit k = true ∧ T.2.1 k = 7)) : ut_w T S (k + 1) = ut_w T S k := by
  rw [ut_w, if_neg h]
theorem ut_w_le {T : bo_T} {S : Nat} : ∀ k, (ut_w T S k).1 ≤ k ∧ ∀ i, i < (ut_w T S k).1 → (ut_w T S k).2 i < k
  | 0 => ⟨Nat.le_refl _, fun i h => by have : i < 0 := h; omega⟩
  | k + 1 => by
    obtain ⟨h1, h2⟩ := ut_w_le (T := T) (S := S) k
    by_cases h : S.testBit k = true ∧ T.2.1 k = 7
    · rw [ut_w_p h]
      refine ⟨by show (ut_w T S k).1 + 1 ≤ k + 1; omega, fun i hi => ?_⟩
      have hi' : i < (ut_w T S k).1 + 1 := hi
      show (if i = (ut_w T S k).1 then k else (ut_w T S k).2 i) < k + 1
      by_cases e : i = (ut_w T S k).1
      · rw [if_pos e]; omega
      · rw [if_neg e]; have := h2 i (by omega); omega
    · rw [ut_w_n h]
      exact ⟨by omega, fun i hi => by have := h2 i hi; omega⟩
def ut_C (T : bo_T) (S k : Nat) (m : xm_S) : Prop := m.1 20 3 = nI (ut_w T S k).1 ∧ ∀ i, i < (ut_w T S k).1 → m.1 21 i = nI ((ut_w T S k).2 i)
def ut_M (T : bo_T) (S k : Nat) (m : xm_S) : Prop := m.1 35 17 = nI (ut_w T S k).1 ∧ ∀ i, i < (ut_w T S k).1 → m.1 49 i = nI ((ut_w T S k).2 i)
theorem uc_7 {F f : Nat} {T : bo_T} {PS : Nat → Nat} {kk : xm_S → Option xm_S} (hW : bt_W T) (hf : f < T.1) : ∀ (r i fu : Nat) (m : xm_S), i + r = f + 1 → r < fu → bt_C T m → bt_P T PS m → ut_C T (PS f) i m → ∃ m' : xm_S, au_listUntils_l7 F (nI f) kk fu (nI i) m = kk m' ∧ ut_C T (PS f) (f + 1) m' ∧ (∀ j, j ≠ 3 → m'.1 20 j = m.1 20 j) := by
  have h28 := hW.1
  intro r
  induction r with
  | zero =>
    intro i fu m hi hfu hC hP hU
    obtain ⟨fu, rfl⟩ : ∃ g, fu = g + 1 := ⟨fu - 1, by omega⟩
    obtain rfl : i = f + 1 := by omega
    refine ⟨m, ?_, hU, fun _ _ => rfl⟩
    rw [au_listUntils_l7, if_pos (nI_lt (by omega) (by omega))]
  | succ r ih =>
    intro i fu m hi hfu hC hP hU
    obtain ⟨fu, rfl⟩ : ∃ g, fu = g + 1 := ⟨fu - 1, by omega⟩
    obtain ⟨p1, p2, p3⟩ := hP f hf
    have hps : PS f < 2 ^ 31 := Nat.lt_of_lt_of_le p2 (Nat.pow_le_pow_right (by decide) (by omega))
    obtain ⟨c1, c2, c3⟩ := hC.2 i (by omega)
    have w1 := (hW.2 i (by omega)).1
    rw [au_listUntils_l7, if_neg (nI_nlt (by omega) (by omega))]
    unfold bk_isPart
    rw [xg_nI (by omega) (by decide), nI_clamp (by omega), p1, nI_1]
    by_cases hb : (PS f).testBit i = true
    · rw [if_neg (fun q => by rw [(nb_t hps (by omega)).mp q] at hb; cases hb)]
      simp only [xc_s]
      rw [if_neg (show ¬ (1 : Int32) = 0 by decide), xg_nI (by omega) (by decide), nI_clamp (by omega), c1]
      by_cases h7 : T.2.1 i = 7
      · rw [if_pos (by rw [h7]; rfl), hU.1]
        have hle := (ut_w_le (T := T) (S := PS f) i).1
        rw [xg_nI (by omega) (by decide), nI_clamp (by omega)]
        simp only [xs_m]
        have v : (xw_i m 21 (ut_w T (PS f) i).1 (nI i)).1 20 3 = nI (ut_w T (PS f) i).1 := by rw [xi_k (by decide), hU.1]
        rw [v, nI_1]
        have g : xf_r [20, 21] m (xw_i (xw_i m 21 (ut_w T (PS f) i).1 (nI i)) 20 3 (nI ((ut_w T (PS f) i).1 + 1))) := xf_t (xf_i rfl) (xf_i rfl)
        obtain ⟨m', e1, e2, e3⟩ := ih (i + 1) fu _ (by omega) (by omega) (bt_C_f hC g rfl rfl rfl rfl) (bt_P_f hP g rfl) (by
          refine ⟨?_, fun j hj => ?_⟩
          · rw [xi_s, ut_w_p ⟨hb, h7⟩]
          · rw [ut_w_p ⟨hb, h7⟩] at hj ⊢
            have hj' : j < (ut_w T (PS f) i).1 + 1 := hj
            rw [xi_k (by decide)]
            show _ = nI (if j = (ut_w T (PS f) i).1 then i else (ut_w T (PS f) i).2 j)
            by_cases e : j = (ut_w T (PS f) i).1
            · rw [if_pos e, e, xi_s]
            · rw [if_neg e, xi_j e]; exact hU.2 j (by omega))
        refine ⟨m', e1, e2, fun j hj => ?_⟩
        rw [e3 j hj, xi_j hj, xi_k (by decide)]
      · rw [if_neg (show ¬ nI (T.2.1 i) = (7 : Int32) from fun q => h7 ((fm_e (n := 7) w1 (by decide)).mp q))]
        exact ih (i + 1) fu m (by omega) (by omega) hC hP (by unfold ut_C; rw [ut_w_n (fun q => h7 q.2)]; exact hU)
    · have hb0 : (PS f).testBit i = false := by cases h : (PS f).testBit i with
        | true => exact absurd h hb
        | false => rfl
      rw [if_pos ((nb_t hps (by omega)).mpr hb0)]
      simp only [xc_s, if_true]
      exact ih (i + 1) fu m (by omega) (by omega) hC hP (by unfold ut_C; rw [ut_w_n (fun q => hb q.1)]; exact hU)
theorem uc_all {F f : Nat} {T : bo_T} {PS : Nat → Nat} {m : xm_S} (hF : 100 < F) (hW : bt_W T) (hf : f < T.1) (hC : bt_C T m) (hP : bt_P T PS m) : ∃ m' : xm_S, au_listUntils F (nI f) m = some m' ∧ ut_C T (PS f) (f + 1) m' ∧ (∀ j, j ≠ 3 → m'.1 20 j = m.1 20 j) := by
  have h28 := hW.1
  unfold au_listUntils xs_m
  have g : xf_r [20] m (xw_i m 20 3 0) := xf_i rfl
  obtain ⟨m', e1, e2, e3⟩ := uc_7 (F := F) (kk := fun m => some m) hW hf (f + 1) 0 F (xw_i m 20 3 0) (by omega) (by omega) (bt_C_f hC g rfl rfl rfl rfl) (bt_P_f hP g rfl) ⟨xi_s, fun i hi => by have : i < 0 := hi; omega⟩
  exact ⟨m', e1, e2, fun j hj => by rw [e3 j hj, xi_j hj]⟩
theorem um_85 {F f X S : Nat} {T : bo_T} {kk : xm_S → Option xm_S} (hW : bt_W T) (hf : f < T.1) (hX : X < 2 ^ 31) (hXS : ∀ j, j ≤ f → X.testBit j = S.testBit j) : ∀ (r i fu : Nat) (m : xm_S), i + r = f + 1 → r < fu → (∀ j, j < T.1 → m.1 36 j = nI (T.2.1 j)) → ut_M T S i m → ∃ m' : xm_S, mm_findUntils_l85 F (nI f) (nI X) kk fu (nI i) m = kk m' ∧ ut_M T S (f + 1) m' ∧ (∀ j, j ≠ 17 → m'.1 35 j = m.1 35 j) := by
  have h28 := hW.1
  intro r
  induction r with
  | zero =>
    intro i fu m hi hfu hC hU
    obtain ⟨fu, rfl⟩ : ∃ g, fu = g + 1 := ⟨fu - 1, by omega⟩
    obtain rfl : i = f + 1 := by omega
    refine ⟨m, ?_, hU, fun _ _ => rfl⟩
    rw [mm_findUntils_l85, if_pos (nI_lt (by omega) (by omega))]
  | succ r ih =>
    intro i fu m hi hfu hC hU
    obtain ⟨fu, rfl⟩ : ∃ g, fu = g + 1 := ⟨fu - 1, by omega⟩
    have c1 := hC i (by omega)
    have w1 := (hW.2 i (by omega)).1
    have hx := hXS i (by omega)
    rw [mm_findUntils_l85, if_neg (nI_nlt (by omega) (by omega)), nI_1]
    by_cases hb : S.testBit i = true
    · rw [if_pos ((nb_t1 hX (by omega)).mpr (by rw [hx]; exact hb)), xg_nI (by omega) (by decide), nI_clamp (by omega), c1]
      by_cases h7 : T.2.1 i = 7
      · rw [if_pos (by rw [h7]; rfl), hU.1]
        have hle := (ut_w_le (T := T) (S := S) i).1
        rw [xg_nI (by omega) (by decide), nI_clamp (by omega)]
        simp only [xs_m]
        have v : (xw_i m 49 (ut_w T S i).1 (nI i)).1 35 17 = nI (ut_w T S i).1 := by rw [xi_k (by decide), hU.1]
        rw [v, nI_1]
        obtain ⟨m', e1, e2, e3⟩ := ih (i + 1) fu (xw_i (xw_i m 49 (ut_w T S i).1 (nI i)) 35 17 (nI ((ut_w T S i).1 + 1))) (by omega) (by omega) (fun j hj => by rw [xi_k (by decide), xi_k (by decide)]; exact hC j hj) (by
          refine ⟨?_, fun j hj => ?_⟩
          · rw [xi_s, ut_w_p ⟨hb, h7⟩]
          · rw [ut_w_p ⟨hb, h7⟩] at hj ⊢
            have hj' : j < (ut_w T S i).1 + 1 := hj
            rw [xi_k (by decide)]
            show _ = nI (if j = (ut_w T S i).1 then i else (ut_w T S i).2 j)
            by_cases e : j = (ut_w T S i).1
            · rw [if_pos e, e, xi_s]
            · rw [if_neg e, xi_j e]; exact hU.2 j (by omega))
        refine ⟨m', e1, e2, fun j hj => ?_⟩
        rw [e3 j hj, xi_j hj, xi_k (by decide)]
      · rw [if_neg (show ¬ nI (T.2.1 i) = (7 : Int32) from fun q => h7 ((fm_e (n := 7) w1 (by decide)).mp q))]
        exact ih (i + 1) fu m (by omega) (by omega) hC (by unfold ut_M; rw [ut_w_n (fun q => h7 q.2)]; exact hU)
    · rw [if_neg (fun q => by rw [nb_t1 hX (by omega), hx] at q; exact hb q)]
      exact ih (i + 1) fu m (by omega) (by omega) hC (by unfold ut_M; rw [ut_w_n (fun q => hb q.1)]; exact hU)
-- the set of parts, found from above
def cl_X (T : bo_T) (X r : Nat) : Prop := ∀ j, r ≤ j → j < T.1 → X.testBit j = true → (4 ≤ T.2.1 j → X.testBit (T.2.2.1 j) = true) ∧ (bo_two (T.2.1 j) → X.testBit (T.2.2.2 j) = true)
theorem tb_o {X p j : Nat} : (X ||| 2 ^ p).testBit j = true ↔ (X.testBit j = true ∨ j = p) := by
  rw [Nat.testBit_or, Nat.testBit_two_pow]
  by_cases e : p = j
  · subst e; simp
  · have e2 : ¬ j = p := fun q => e q.symm
    simp [e, e2]
theorem ps_cl {T : bo_T} {PS : Nat → Nat} {X : Nat} {mP : xm_S} (hW : bt_W T) (hP : bt_P T PS mP) (hX : cl_X T X 0) : ∀ (b g : Nat), g < b → g < T.1 → X.testBit g = true → ∀ j, (PS g).testBit j = true → X.testBit j = true := by
  intro b
  induction b with
  | zero => intro g h; omega
  | succ b ih =>
    intro g hb hg hx j hj
    obtain ⟨w1, w2, w3, w4, w5, w6, -⟩ := hW.2 g hg
    obtain ⟨x1, x2⟩ := hX g (by omega) hg hx
    rcases ((hP g hg).2.2 j).mp hj with e | ⟨q, h⟩ | ⟨q, h⟩
    · rw [e]; exact hx
    · have := w4 q
      exact ih _ (by omega) (by omega) (x1 q) j h
    · have := w5 q
      exact ih _ (by omega) (by omega) (x2 q) j h
theorem um_6 {F f : Nat} {T : bo_T} {PS : Nat → Nat} {mP m : xm_S} {x0 : Int32} {kk : Int32 → xm_S → Option xm_S} (hW : bt_W T) (hP : bt_P T PS mP) (hf : f < T.1) (hM : bt_M T m) : ∀ (r fu X : Nat), r ≤ f + 1 → r < fu → X < 2 ^ (f + 1) → X.testBit f = true → (∀ j, X.testBit j = true → (PS f).testBit j = true) → cl_X T X r →
    ∃ X' : Nat, mm_findUntils_l6 F x0 kk fu (nI X) (nI r + (-1)) m = kk (nI X') m ∧ X' < 2 ^ (f + 1) ∧ ∀ j, j ≤ f → X'.testBit j = (PS f).testBit j := by
  have h28 := hW.1
  intro r
  induction r with
  | zero =>
    intro fu X hr hfu hX h1 h2 h3
    obtain ⟨fu, rfl⟩ : ∃ g, fu = g + 1 := ⟨fu - 1, by omega⟩
    refine ⟨X, ?_, hX, fun j hj => ?_⟩
    · rw [mm_findUntils_l6, if_pos (show nI 0 + (-1) < (0 : Int32) by decide)]
    · have h4 := ps_cl hW hP h3 (f + 1) f (by omega) hf h1 j
      cases a : X.testBit j with
      | true => rw [h2 j a]
      | false =>
        cases b : (PS f).testBit j with
        | true => rw [h4 b] at a; cases a
        | false => rfl
  | succ k ih =>
    intro fu X hr hfu hX h1 h2 h3
    obtain ⟨fu, rfl⟩ : ∃ g, fu = g + 1 := ⟨fu - 1, by omega⟩
    have hk : k < T.1 := by omega
    have hpw : 2 ^ (f + 1) ≤ 2 ^ 28 := Nat.pow_le_pow_right (by decide) (by omega)
    have hX31 : X < 2 ^ 31 := by omega
    obtain ⟨w1, w2, w3, w4, w5, w6, -⟩ := hW.2 k hk
    obtain ⟨c1, c2, c3⟩ := hM.2 k hk
    obtain ⟨s1, s2, s3⟩ := (bo_W.S hW).2 k hk
    have c_le : (nI (T.2.1 k) ≤ (3 : Int32)) ↔ T.2.1 k ≤ 3 := nI_leI (b := 3) (by omega) (by decide)
    have cc : ∀ j : Nat, j ≤ 8 → ((nI (T.2.1 k) = nI j) ↔ T.2.1 k = j) := fun j hj => fm_e w1 hj
    have c_4 : (nI (T.2.1 k) = 4) ↔ T.2.1 k = 4 := cc 4 (by decide)
    have c_5 : (nI (T.2.1 k) = 5) ↔ T.2.1 k = 5 := cc 5 (by decide)
    have c_7 : (nI (T.2.1 k) = 7) ↔ T.2.1 k = 7 := cc 7 (by decide)
    have c_8 : (nI (T.2.1 k) = 8) ↔ T.2.1 k = 8 := cc 8 (by decide)
    have t2 : mm_hasTwo (nI (T.2.1 k)) = 0 ↔ ¬ bo_two (T.2.1 k) := by
      unfold mm_hasTwo bo_two
      simp only [c_4, c_5, c_7, c_8]
      by_cases q4 : T.2.1 k = 4
      · simp [q4]
      · by_cases q5 : T.2.1 k = 5
        · simp [q5]
        · by_cases q7 : T.2.1 k = 7
          · simp [q7]
          · by_cases q8 : T.2.1 k = 8
            · simp [q8]
            · simp [q4, q5, q7, q8]
    have hg : ∀ {β : Type} {o : Option β}, xg_n (nI k) 28 o = o := fun {β o} => xg_nI (by omega) (by decide)
    rw [mm_findUntils_l6, pk_m1, if_neg (nI_pos (by omega))]
    simp only [xj_j, hg, nI_clamp (show k < 2 ^ 31 by omega), c1, c2, c3, c_le]
    by_cases hb : X.testBit k = true
    · have hpt := bo_tr hW hP hf k hk (h2 k hb)
      have hbit : ∀ Y, Y < 2 ^ 31 → Y.testBit k = true → (nI Y >>> (nI k &&& 31)) &&& (1 : Int32) = 1 := fun Y hY h => (nb_t1 hY (by omega)).mpr h
      rw [if_pos (hbit X hX31 hb)]
      by_cases q4 : T.2.1 k ≤ 3
      · rw [if_pos q4, if_pos (hbit X hX31 hb), if_pos (t2.mpr (by unfold bo_two; omega))]
        exact ih fu X (by omega) (by omega) hX h1 h2 (fun j hj hjT hjb => by
          by_cases e : j = k
          · subst e; exact ⟨fun q => by omega, fun q => by unfold bo_two at q; omega⟩
          · exact h3 j (by omega) hjT hjb)
      · have ha := w4 (by omega)
        have hY : X ||| 2 ^ T.2.2.1 k < 2 ^ (f + 1) := Nat.or_lt_two_pow hX (Nat.pow_lt_pow_right (by decide) (by omega))
        have hY31 : X ||| 2 ^ T.2.2.1 k < 2 ^ 31 := by omega
        have hYk : (X ||| 2 ^ T.2.2.1 k).testBit k = true := tb_o.mpr (Or.inl hb)
        rw [if_neg q4, nb_one (by omega), nb_or, if_pos (hbit _ hY31 hYk)]
        by_cases q2 : bo_two (T.2.1 k)
        · have hb2 := w5 q2
          have hZ : X ||| 2 ^ T.2.2.1 k ||| 2 ^ T.2.2.2 k < 2 ^ (f + 1) := Nat.or_lt_two_pow hY (Nat.pow_lt_pow_right (by decide) (by omega))
          rw [if_neg (fun q => t2.mp q q2), nb_one (by omega), nb_or]
          refine ih fu _ (by omega) (by omega) hZ (tb_o.mpr (Or.inl (tb_o.mpr (Or.inl h1)))) (fun j hj => ?_) (fun j hj hjT hjb => ?_)
          · rcases tb_o.mp hj with h | h
            · rcases tb_o.mp h with h | h
              · exact h2 j h
              · rw [h]; exact hpt.1 (by omega)
            · rw [h]; exact hpt.2 q2
          · by_cases e : j = k
            · subst e
              exact ⟨fun _ => tb_o.mpr (Or.inl (tb_o.mpr (Or.inr rfl))), fun _ => tb_o.mpr (Or.inr rfl)⟩
            · have hx : X.testBit j = true := by
                rcases tb_o.mp hjb with h | h
                · rcases tb_o.mp h with h | h
                  · exact h
                  · omega
                · omega
              obtain ⟨y1, y2⟩ := h3 j (by omega) hjT hx
              exact ⟨fun q => tb_o.mpr (Or.inl (tb_o.mpr (Or.inl (y1 q)))), fun q => tb_o.mpr (Or.inl (tb_o.mpr (Or.inl (y2 q))))⟩
        · rw [if_pos (t2.mpr q2)]
          refine ih fu _ (by omega) (by omega) hY (tb_o.mpr (Or.inl h1)) (fun j hj => ?_) (fun j hj hjT hjb => ?_)
          · rcases tb_o.mp hj with h | h
            · exact h2 j h
            · rw [h]; exact hpt.1 (by omega)
          · by_cases e : j = k
            · subst e
              exact ⟨fun _ => tb_o.mpr (Or.inr rfl), fun q => absurd q q2⟩
            · have hx : X.testBit j = true := by
                rcases tb_o.mp hjb with h | h
                · exact h
                · omega
              obtain ⟨y1, y2⟩ := h3 j (by omega) hjT hx
              exact ⟨fun q => tb_o.mpr (Or.inl (y1 q)), fun q => tb_o.mpr (Or.inl (y2 q))⟩
    · have hn : ¬ (nI X >>> (nI k &&& 31)) &&& (1 : Int32) = 1 := fun q => hb ((nb_t1 hX31 (by omega)).mp q)
      rw [if_neg hn, if_neg hn]
      exact ih fu X (by omega) (by omega) hX h1 h2 (fun j hj hjT hjb => by
        by_cases e : j = k
        · subst e; exact absurd hjb hb
        · exact h3 j (by omega) hjT hjb)
theorem um_all {F f : Nat} {T : bo_T} {PS : Nat → Nat} {mP m : xm_S} (hF : 100 < F) (hW : bt_W T) (hP : bt_P T PS mP) (hf : f < T.1) (hM : bt_M T m) : ∃ m' : xm_S, mm_findUntils F (nI f) m = some m' ∧ ut_M T (PS f) (f + 1) m' ∧ (∀ j, j ≠ 17 → m'.1 35 j = m.1 35 j) := by
  have h28 := hW.1
  have hself : (PS f).testBit f = true := ((hP f hf).2.2 f).mpr (Or.inl rfl)
  have hb : ∀ j, (2 ^ f).testBit j = true → j = f := fun j h => by rw [Nat.testBit_two_pow] at h; exact (of_decide_eq_true h).symm
  unfold mm_findUntils
  obtain ⟨X, e1, e2, e3⟩ := um_6 (F := F) (x0 := nI f) (kk := fun (x1721 : Int32) (m1722 : xm_S) => xs_m (xw_i m1722 35 17 (0 : Int32)) fun m1723 => mm_findUntils_l85 F (nI f) x1721 (fun (m1738 : xm_S) => some m1738) F (0 : Int32) m1723) hW hP hf hM (f + 1) F (2 ^ f) (Nat.le_refl _) (by omega) (Nat.pow_lt_pow_right (by decide) (by omega)) (by rw [Nat.testBit_two_pow]; simp) (fun j hj => by rw [hb j hj]; exact hself) (fun j hj _ hjb => by have := hb j hjb; omega)
  rw [pk_m1] at e1
  rw [nb_one (by omega), e1]
  simp only [xs_m]
  have hpw : 2 ^ (f + 1) ≤ 2 ^ 28 := Nat.pow_le_pow_right (by decide) (by omega)
  obtain ⟨m', d1, d2, d3⟩ := um_85 (F := F) (S := PS f) (kk := fun m => some m) hW hf (show X < 2 ^ 31 by omega) e3 (f + 1) 0 F (xw_i m 35 17 0) (by omega) (by omega) (fun j hj => by rw [xi_k (by decide)]; exact (hM.2 j hj).1) ⟨xi_s, fun i hi => by have : i < 0 := hi; omega⟩
  exact ⟨m', d1, d2, fun j hj => by rw [d3 j hj, xi_j hj]⟩
