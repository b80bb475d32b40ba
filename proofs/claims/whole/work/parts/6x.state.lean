/-! States: what ways lead to. -/
theorem ps_X {T : bo_T} {PS : Nat → Nat} {m : xm_S} {f : Nat} (hW : bt_W T) (hP : bt_P T PS m) (hf : f < T.1) : cl_X T (PS f) 0 := fun j _ hj hb => bo_tr hW hP hf j hj hb
theorem ps_in {T : bo_T} {PS : Nat → Nat} {m : xm_S} {f g j : Nat} (hW : bt_W T) (hP : bt_P T PS m) (hf : f < T.1) (hg : g < T.1) (h : (PS f).testBit g = true) (hj : (PS g).testBit j = true) : (PS f).testBit j = true := ps_cl hW hP (ps_X hW hP hf) (g + 1) g (by omega) hg h j hj
theorem wp_bits {T : bo_T} {PS : Nat → Nat} {m : xm_S} {l : Nat} (hW : bt_W T) (hP : bt_P T PS m) : ∀ (b k : Nat), k < b → k < T.1 → ∀ x, wp_f T l k x → ∀ j, j < 28 → x.toBitVec.getLsbD j = true → (PS k).testBit j = true := by
  have h28 := hW.1
  have z : ∀ i, i < 64 → (0 : Int64).toBitVec.getLsbD i = false := by decide
  intro b
  induction b with
  | zero => intro k h; omega
  | succ b ih =>
    intro k hb hk x hx j hj ht
    obtain ⟨w1, w2, w3, w4, w5, w6, -⟩ := hW.2 k hk
    have hself : ∀ q, q < T.1 → (PS q).testBit q = true := fun q hq => ((hP q hq).2.2 q).mpr (Or.inl rfl)
    have A : 4 ≤ T.2.1 k → ∀ u, wp_f T l (T.2.2.1 k) u → u.toBitVec.getLsbD j = true → (PS k).testBit j = true := fun q u hu ht => by
      have := w4 q
      exact ((hP k hk).2.2 j).mpr (Or.inr (Or.inl ⟨q, ih _ (by omega) (by omega) u hu j hj ht⟩))
    have B : bo_two (T.2.1 k) → ∀ u, wp_f T l (T.2.2.2 k) u → u.toBitVec.getLsbD j = true → (PS k).testBit j = true := fun q u hu ht => by
      have := w5 q
      exact ((hP k hk).2.2 j).mpr (Or.inr (Or.inr ⟨q, ih _ (by omega) (by omega) u hu j hj ht⟩))
    have K : (bl_n k).toBitVec.getLsbD j = true → (PS k).testBit j = true := fun q => by
      rw [bl_t (by omega) (by omega)] at q
      rw [of_decide_eq_true q]; exact hself k hk
    have K2 : ¬ (bl_n (28 + k)).toBitVec.getLsbD j = true := fun q => by
      rw [bl_t (by omega) (by omega)] at q
      have := of_decide_eq_true q
      omega
    have Z : ¬ (0 : Int64).toBitVec.getLsbD j = true := fun q => by rw [z j (by omega)] at q; cases q
    rw [wp_f_e hW hk] at hx
    unfold wp_s at hx
    have hcase : T.2.1 k = 0 ∨ T.2.1 k = 1 ∨ T.2.1 k = 2 ∨ T.2.1 k = 3 ∨ T.2.1 k = 4 ∨ T.2.1 k = 5 ∨ T.2.1 k = 6 ∨ T.2.1 k = 7 ∨ T.2.1 k = 8 := by omega
    rcases hcase with h | h | h | h | h | h | h | h | h
    · simp [h] at hx; rw [hx] at ht; exact absurd ht Z
    · simp [h] at hx
    · simp [h] at hx; rw [hx.2] at ht; exact absurd ht Z
    · simp [h] at hx; rw [hx.2] at ht; exact absurd ht Z
    · simp [h] at hx
      obtain ⟨u, hu, v, hv, e⟩ := hx
      rw [e, or_t, Bool.or_eq_true] at ht
      rcases ht with q | q
      · exact B (Or.inl h) v hv q
      · exact A (by omega) u hu q
    · simp [h] at hx
      rcases hx with q | q
      · exact A (by omega) x q ht
      · exact B (Or.inr (Or.inl h)) x q ht
    · simp [h] at hx
      have ha := w4 (by omega)
      rw [hx, bl_t (by omega) (by omega)] at ht
      rw [of_decide_eq_true ht]
      exact ((hP k hk).2.2 _).mpr (Or.inr (Or.inl ⟨by omega, hself _ (by omega)⟩))
    · simp [h] at hx
      rcases hx with q | ⟨u, hu, e⟩
      · exact B (Or.inr (Or.inr (Or.inl h))) x q ht
      · rw [e, or_t, or_t, Bool.or_eq_true, Bool.or_eq_true] at ht
        rcases ht with q | q | q
        · exact A (by omega) u hu q
        · exact K q
        · exact absurd q K2
    · have n7 : ¬ T.2.1 k = 7 := by omega
      simp [h] at hx
      rcases hx with ⟨u, hu, v, hv, e⟩ | ⟨u, hu, e⟩
      · rw [e, or_t, Bool.or_eq_true] at ht
        rcases ht with q | q
        · exact A (by omega) v hv q
        · exact B (Or.inr (Or.inr (Or.inr h))) u hu q
      · rw [e, or_t, Bool.or_eq_true] at ht
        rcases ht with q | q
        · exact B (Or.inr (Or.inr (Or.inr h))) u hu q
        · exact K q
theorem jp_bits {T : bo_T} {PS : Nat → Nat} {m : xm_S} {l S f : Nat} (hW : bt_W T) (hP : bt_P T PS m) (hf : f < T.1) (hS : ∀ j, S.testBit j = true → (PS f).testBit j = true ∧ j ≤ f) : ∀ (n : Nat) (x : Int64), jp_w T l S n x → ∀ j, j < 28 → x.toBitVec.getLsbD j = true → (PS f).testBit j = true := by
  intro n
  induction n with
  | zero =>
    intro x hx j hj ht
    have z : ∀ i, i < 64 → (0 : Int64).toBitVec.getLsbD i = false := by decide
    rw [show x = 0 from hx, z j (by omega)] at ht
    cases ht
  | succ n ih =>
    intro x hx j hj ht
    by_cases hb : S.testBit n = true
    · rw [jp_1 hb] at hx
      obtain ⟨u, v, hu, hv, e⟩ := hx
      rw [e, or_t, Bool.or_eq_true] at ht
      rcases ht with q | q
      · obtain ⟨h1, h2⟩ := hS n hb
        exact ps_in hW hP hf (by omega) h1 (wp_bits hW hP (n + 1) n (by omega) (by omega) v hv j hj q)
      · exact ih u hu j hj q
    · have hb0 : S.testBit n = false := by cases h : S.testBit n with
        | true => exact absurd h hb
        | false => rfl
      rw [jp_n hb0] at hx
      exact ih x hx j hj ht
-- the first that is put off
def fo_w (b : Nat → Bool) : Nat → Nat → Nat
  | 0, i => i
  | r + 1, i => if b i then i else fo_w b r (i + 1)
theorem fo_le {b : Nat → Bool} : ∀ r i, i ≤ fo_w b r i ∧ fo_w b r i ≤ i + r
  | 0, i => ⟨Nat.le_refl _, Nat.le_refl _⟩
  | r + 1, i => by
    rw [fo_w]
    split
    · omega
    · have := fo_le (b := b) r (i + 1); omega
def au_j (U : Nat × (Nat → Nat)) (x : Int64) (n : Nat) : Nat := fo_w (fun i => wx_o x (U.2 i)) (U.1 - n) n
def au_t (U : Nat × (Nat → Nat)) (s : Nat × Nat) (x : Int64) : Nat × Nat := (wx_n x, if au_j U x s.2 = U.1 then 0 else au_j U x s.2)
def au_r (T : bo_T) (U : Nat × (Nat → Nat)) (f : Nat) (s : Nat × Nat) : Prop := ∀ P : Nat × Nat → Prop, P (2 ^ f, 0) → (∀ (s : Nat × Nat) (l : Nat) (x : Int64), P s → l < 16 → jp_w T l s.1 28 x → P (au_t U s x)) → P s
theorem au_r_z {T : bo_T} {U : Nat × (Nat → Nat)} {f : Nat} : au_r T U f (2 ^ f, 0) := fun _ h _ => h
theorem au_r_s {T : bo_T} {U : Nat × (Nat → Nat)} {f l : Nat} {s : Nat × Nat} {x : Int64} (h : au_r T U f s) (hl : l < 16) (hx : jp_w T l s.1 28 x) : au_r T U f (au_t U s x) := fun P h1 h2 => h2 s l x (h P h1 h2) hl hx
theorem au_r_b {T : bo_T} {PS : Nat → Nat} {m : xm_S} {f : Nat} {U : Nat × (Nat → Nat)} (hW : bt_W T) (hP : bt_P T PS m) (hf : f < T.1) : ∀ s, au_r T U f s → (s.1 < 2 ^ (f + 1) ∧ (∀ j, s.1.testBit j = true → (PS f).testBit j = true ∧ j ≤ f)) ∧ s.2 ≤ U.1 := by
  have hlt : ∀ X : Nat, X < 2 ^ 28 → (∀ j, X.testBit j = true → (PS f).testBit j = true) → X < 2 ^ (f + 1) ∧ ∀ j, X.testBit j = true → (PS f).testBit j = true ∧ j ≤ f := fun X hX h => by
    have hp := (hP f hf).2.1
    have hj : ∀ j, X.testBit j = true → j ≤ f := fun j hj => by
      rcases Nat.lt_or_ge f j with z | z
      · have h1 := h j hj
        rw [Nat.testBit_lt_two_pow (Nat.lt_of_lt_of_le hp (Nat.pow_le_pow_right (by decide) (by omega)))] at h1
        cases h1
      · exact z
    refine ⟨Nat.lt_pow_two_of_testBit _ (fun i hi => ?_), fun j h1 => ⟨h j h1, hj j h1⟩⟩
    cases a : X.testBit i with
    | false => rfl
    | true => have := hj i a; omega
  intro s hs
  refine hs (fun s => (s.1 < 2 ^ (f + 1) ∧ (∀ j, s.1.testBit j = true → (PS f).testBit j = true ∧ j ≤ f)) ∧ s.2 ≤ U.1) ?_ ?_
  · have hb : ∀ j, (2 ^ f).testBit j = true → j = f := fun j h => by rw [Nat.testBit_two_pow] at h; exact (of_decide_eq_true h).symm
    refine ⟨⟨Nat.pow_lt_pow_right (by decide) (by omega), fun j hj => ?_⟩, Nat.zero_le _⟩
    have e := hb j hj
    rw [e]
    exact ⟨((hP f hf).2.2 f).mpr (Or.inl rfl), Nat.le_refl _⟩
  · intro s l x ih hl hx
    refine ⟨hlt _ (wx_n_lt _) (fun j hj => ?_), ?_⟩
    · rw [show (au_t U s x).1 = wx_n x from rfl, wx_n_t, Bool.and_eq_true] at hj
      exact jp_bits hW hP hf ih.1.2 28 _ hx j (of_decide_eq_true hj.1) hj.2
    · show (if au_j U x s.2 = U.1 then 0 else au_j U x s.2) ≤ U.1
      have h1 := (fo_le (b := fun i => wx_o x (U.2 i)) (U.1 - s.2) s.2).2
      have h2 := ih.2
      unfold au_j
      split <;> omega
theorem au_t_lt {U : Nat × (Nat → Nat)} {s : Nat × Nat} {x : Int64} (h : s.2 ≤ U.1) : au_j U x s.2 ≤ U.1 ∧ (au_t U s x).2 ≤ U.1 := by
  have h1 := (fo_le (b := fun i => wx_o x (U.2 i)) (U.1 - s.2) s.2).2
  refine ⟨by unfold au_j; omega, ?_⟩
  show (if au_j U x s.2 = U.1 then 0 else au_j U x s.2) ≤ U.1
  unfold au_j
  split <;> omega
-- the class: the first that is put off
theorem fp_c {F : Nat} {U : Nat × (Nat → Nat)} {x : Int64} {m : xm_S} {kk : xm_S → Option (Int32 × xm_S)} (hU : U.1 ≤ 28) (hU2 : ∀ i, i < U.1 → U.2 i < 28) (h1 : m.1 20 3 = nI U.1) (h2 : ∀ i, i < U.1 → m.1 21 i = nI (U.2 i)) : ∀ (r i fu : Nat), i + r = U.1 → r < fu →
    (fo_w (fun i => wx_o x (U.2 i)) r i = U.1 ∧ au_firstPutOff_l2 F (wy_putOffSet x) kk fu (nI i) m = kk m) ∨ (fo_w (fun i => wx_o x (U.2 i)) r i < U.1 ∧ au_firstPutOff_l2 F (wy_putOffSet x) kk fu (nI i) m = some (nI (fo_w (fun i => wx_o x (U.2 i)) r i), m)) := by
  intro r
  induction r with
  | zero =>
    intro i fu hi hfu
    obtain ⟨fu, rfl⟩ : ∃ g, fu = g + 1 := ⟨fu - 1, by omega⟩
    refine Or.inl ⟨by rw [fo_w]; omega, ?_⟩
    rw [au_firstPutOff_l2, h1, if_pos (nI_le (by omega) (by omega))]
  | succ r ih =>
    intro i fu hi hfu
    obtain ⟨fu, rfl⟩ : ∃ g, fu = g + 1 := ⟨fu - 1, by omega⟩
    rw [fo_w, au_firstPutOff_l2, h1, if_neg (nI_ge (by omega) (by omega)), xg_nI (by omega) (by decide), nI_clamp (by omega), h2 i (by omega), nI_1]
    cases hb : wx_o x (U.2 i) with
    | true =>
      have c : ¬ (wy_putOffSet x >>> (nI (U.2 i) &&& 31)) &&& (1 : Int32) = 0 := fun q => by rw [(wx_c (hU2 i (by omega))).mp q] at hb; cases hb
      rw [if_pos rfl, if_neg c]
      exact Or.inr ⟨by omega, rfl⟩
    | false =>
      rw [if_pos ((wx_c (hU2 i (by omega))).mpr hb)]
      simp only [Bool.false_eq_true, if_false]
      exact ih (i + 1) fu (by omega) (by omega)
theorem fp_all {F n : Nat} {U : Nat × (Nat → Nat)} {x : Int64} {m : xm_S} (hF : 100 < F) (hU : U.1 ≤ 28) (hU2 : ∀ i, i < U.1 → U.2 i < 28) (h1 : m.1 20 3 = nI U.1) (h2 : ∀ i, i < U.1 → m.1 21 i = nI (U.2 i)) (hn : n ≤ U.1) : au_firstPutOff F (nI n) (wy_putOffSet x) m = some (if au_j U x n = U.1 then (-1 : Int32) else nI (au_j U x n), m) := by
  unfold au_firstPutOff
  rcases fp_c (F := F) (x := x) (kk := fun (m647 : xm_S) => some ((-1 : Int32), m647)) hU hU2 h1 h2 (U.1 - n) n F (by omega) (by omega) with ⟨a, b⟩ | ⟨a, b⟩
  · have a' : au_j U x n = U.1 := a
    rw [b, if_pos a']
  · have a' : ¬ au_j U x n = U.1 := by unfold au_j; omega
    rw [b, if_neg a']
    rfl
-- the reference: the same
theorem fp_m {F : Nat} {U : Nat × (Nat → Nat)} {x : Int64} {m : xm_S} {a1 a2 a3 a4 : Int32} {kk : Int32 → xm_S → Option xm_S} (hU : U.1 ≤ 28) (hU2 : ∀ i, i < U.1 → U.2 i < 28) (h1 : m.1 35 17 = nI U.1) (h2 : ∀ i, i < U.1 → m.1 49 i = nI (U.2 i)) : ∀ (r i fu : Nat), i + r = U.1 → r < fu →
    mm_goFrom_l76 F a1 a2 a3 a4 (x >>> ((28 : Int32).toInt64 &&& 63)) kk fu (nI i) m = kk (nI (fo_w (fun i => wx_o x (U.2 i)) r i)) m := by
  intro r
  induction r with
  | zero =>
    intro i fu hi hfu
    obtain ⟨fu, rfl⟩ : ∃ g, fu = g + 1 := ⟨fu - 1, by omega⟩
    rw [mm_goFrom_l76, h1, if_pos (nI_le (by omega) (by omega)), fo_w]
  | succ r ih =>
    intro i fu hi hfu
    obtain ⟨fu, rfl⟩ : ∃ g, fu = g + 1 := ⟨fu - 1, by omega⟩
    rw [fo_w, mm_goFrom_l76, h1, if_neg (nI_ge (by omega) (by omega)), xg_nI (by omega) (by decide), nI_clamp (by omega), h2 i (by omega), nI_1]
    cases hb : wx_o x (U.2 i) with
    | true =>
      rw [if_neg (fun q => by rw [(wx_m (hU2 i (by omega))).mp q] at hb; cases hb)]
      simp only [if_true]
    | false =>
      rw [if_pos ((wx_m (hU2 i (by omega))).mpr hb)]
      simp only [Bool.false_eq_true, if_false]
      exact ih (i + 1) fu (by omega) (by omega)
