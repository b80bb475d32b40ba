/-! Where formulas hold in a word, as one function; the class's side. -/
theorem xc_s {α β : Type} {a : α} {m : xm_S} {g : α → xm_S → Option β} : xc_m (some (a, m)) g = g a m := rfl
-- what holds where, of the formula k out of what R says of its parts
def hs_s (T : bo_T) (x y : Int64) (n w : Nat) (R : Nat → Nat) (k : Nat) : Nat :=
  if T.2.1 k = 0 then 2 ^ w - 1
  else if T.2.1 k = 1 then 0
  else if T.2.1 k = 2 then hw_w (fun p => hw_b x y n p (T.2.2.1 k)) w
  else if T.2.1 k = 3 then hw_w (fun p => 1 - hw_b x y n p (T.2.2.1 k)) w
  else if T.2.1 k = 4 then R (T.2.2.1 k) &&& R (T.2.2.2 k)
  else if T.2.1 k = 5 then R (T.2.2.1 k) ||| R (T.2.2.2 k)
  else if T.2.1 k = 6 then hw_a n w (R (T.2.2.1 k))
  else if T.2.1 k = 7 then hw_u n w (R (T.2.2.1 k)) (R (T.2.2.2 k)) w (R (T.2.2.2 k))
  else hw_r n w (R (T.2.2.1 k)) (R (T.2.2.2 k)) w (R (T.2.2.2 k))
def hs_R (T : bo_T) (x y : Int64) (n w : Nat) : Nat → Nat → Nat
  | 0 => fun _ => 0
  | k + 1 => va_up (hs_R T x y n w k) k (hs_s T x y n w (hs_R T x y n w k) k)
def hs_f (T : bo_T) (x y : Int64) (n w k : Nat) : Nat := hs_R T x y n w (k + 1) k
theorem hs_R_lt {T : bo_T} {x y : Int64} {n w : Nat} : ∀ (k j : Nat), j < k → hs_R T x y n w k j = hs_f T x y n w j := by
  intro k
  induction k with
  | zero => intro j h; omega
  | succ k ih =>
    intro j h
    by_cases e : j = k
    · subst e; rfl
    · rw [hs_R]
      simp only [va_up, e, if_false]
      exact ih j (by omega)
theorem hs_f_e {T : bo_T} {x y : Int64} {n w k : Nat} (hW : bt_W T) (hk : k < T.1) : hs_f T x y n w k = hs_s T x y n w (hs_f T x y n w) k := by
  obtain ⟨w1, w2, w3, w4, w5, w6, -⟩ := hW.2 k hk
  have e : hs_f T x y n w k = hs_s T x y n w (hs_R T x y n w k) k := by
    unfold hs_f
    rw [hs_R]
    simp [va_up]
  rw [e]
  unfold hs_s
  by_cases q4 : 4 ≤ T.2.1 k
  · have hA := hs_R_lt (T := T) (x := x) (y := y) (n := n) (w := w) k (T.2.2.1 k) (w4 q4)
    by_cases q2 : bo_two (T.2.1 k)
    · have hB := hs_R_lt (T := T) (x := x) (y := y) (n := n) (w := w) k (T.2.2.2 k) (w5 q2)
      rw [hA, hB]
    · rw [hA]
      have h6 : T.2.1 k = 6 := by unfold bo_two at q2; omega
      simp [h6]
  · have h0 : T.2.1 k = 0 ∨ T.2.1 k = 1 ∨ T.2.1 k = 2 ∨ T.2.1 k = 3 := by omega
    rcases h0 with h | h | h | h <;> simp [h]
theorem hs_f_lt {T : bo_T} {x y : Int64} {n w : Nat} (hW : bt_W T) (hw : 0 < w) (hn : n < w) : ∀ (b k : Nat), k < b → k < T.1 → hs_f T x y n w k < 2 ^ w := by
  intro b
  induction b with
  | zero => intro k h; omega
  | succ b ih =>
    intro k hb hk
    obtain ⟨w1, w2, w3, w4, w5, w6, -⟩ := hW.2 k hk
    have hp := Nat.two_pow_pos w
    rw [hs_f_e hW hk]
    unfold hs_s
    by_cases q0 : T.2.1 k = 0
    · rw [if_pos q0]; omega
    rw [if_neg q0]
    by_cases q1 : T.2.1 k = 1
    · rw [if_pos q1]; exact hp
    rw [if_neg q1]
    by_cases q2 : T.2.1 k = 2
    · rw [if_pos q2]; exact hw_w_lt (fun p => hw_b_lt _ _ _ _ _) w
    rw [if_neg q2]
    by_cases q3 : T.2.1 k = 3
    · rw [if_pos q3]; exact hw_w_lt (fun p => by omega) w
    rw [if_neg q3]
    have hA : hs_f T x y n w (T.2.2.1 k) < 2 ^ w := ih _ (by have := w4 (by omega); omega) (by have := w4 (by omega); omega)
    by_cases q6 : T.2.1 k = 6
    · rw [if_neg (by omega), if_neg (by omega), if_pos q6]; exact hw_a_lt hw hA
    have hB : hs_f T x y n w (T.2.2.2 k) < 2 ^ w := ih _ (by have := w5 (by unfold bo_two; omega); omega) (by have := w5 (by unfold bo_two; omega); omega)
    by_cases q4 : T.2.1 k = 4
    · rw [if_pos q4]; exact Nat.lt_of_le_of_lt Nat.and_le_left hA
    rw [if_neg q4]
    by_cases q5 : T.2.1 k = 5
    · rw [if_pos q5]; exact Nat.or_lt_two_pow hA hB
    rw [if_neg q5, if_neg q6]
    by_cases q7 : T.2.1 k = 7
    · rw [if_pos q7]; exact hw_u_lt hw hA hB w _ hB
    · rw [if_neg q7]; exact hw_r_lt hw hA hB w _ hB
-- all but the places with the bit
theorem hw_not {b : Nat → Nat} {w : Nat} (hb : ∀ p, b p < 2) (hw : w ≤ 16) : nI (2 ^ w - 1) &&& (nI (hw_w b w) ^^^ (-1 : Int32)) = nI (hw_w (fun p => 1 - b p) w) := by
  apply Int32.toBitVec_inj.mp
  rw [Int32.toBitVec_and, Int32.toBitVec_xor]
  show BitVec.ofNat 32 (2 ^ w - 1) &&& (BitVec.ofNat 32 (hw_w b w) ^^^ (-1 : Int32).toBitVec) = BitVec.ofNat 32 (hw_w (fun p => 1 - b p) w)
  apply BitVec.eq_of_getLsbD_eq
  intro i hi
  have hm1 : (-1 : Int32).toBitVec.getLsbD i = true := by
    have : ∀ i, i < 32 → (-1 : Int32).toBitVec.getLsbD i = true := by decide
    exact this i hi
  rw [BitVec.getLsbD_and, BitVec.getLsbD_xor, hm1, BitVec.getLsbD_ofNat, BitVec.getLsbD_ofNat, BitVec.getLsbD_ofNat, Nat.testBit_two_pow_sub_one, hw_w_t hb, hw_w_t (fun p => by have := hb p; omega)]
  by_cases h : i < w
  · have := hb i
    have hb2 : b i = 0 ∨ b i = 1 := by omega
    rcases hb2 with q | q <;> simp [hi, h, q]
  · simp [hi, h]
-- parts of parts are parts
theorem bo_tr {T : bo_T} {PS : Nat → Nat} {m : xm_S} {f : Nat} (hW : bt_W T) (hP : bt_P T PS m) (hf : f < T.1) : ∀ j, j < T.1 → (PS f).testBit j = true → (4 ≤ T.2.1 j → (PS f).testBit (T.2.2.1 j) = true) ∧ (bo_two (T.2.1 j) → (PS f).testBit (T.2.2.2 j) = true) := by
  have key : ∀ (b f : Nat), f < b → f < T.1 → ∀ j, j < T.1 → (PS f).testBit j = true → (4 ≤ T.2.1 j → (PS f).testBit (T.2.2.1 j) = true) ∧ (bo_two (T.2.1 j) → (PS f).testBit (T.2.2.2 j) = true) := by
    intro b
    induction b with
    | zero => intro f h; omega
    | succ b ih =>
      intro f hb hf j hj ht
      obtain ⟨w1, w2, w3, w4, w5, w6, -⟩ := hW.2 f hf
      have hself : ∀ q, q < T.1 → (PS q).testBit q = true := fun q hq => ((hP q hq).2.2 q).mpr (Or.inl rfl)
      rcases ((hP f hf).2.2 j).mp ht with e | ⟨q4, h⟩ | ⟨q2, h⟩
      · subst e
        exact ⟨fun q => ((hP j hj).2.2 _).mpr (Or.inr (Or.inl ⟨q, hself _ (by have := w4 q; omega)⟩)), fun q => ((hP j hj).2.2 _).mpr (Or.inr (Or.inr ⟨q, hself _ (by have := w5 q; omega)⟩))⟩
      · have := ih (T.2.2.1 f) (by have := w4 q4; omega) (by have := w4 q4; omega) j hj h
        exact ⟨fun q => ((hP f hf).2.2 _).mpr (Or.inr (Or.inl ⟨q4, this.1 q⟩)), fun q => ((hP f hf).2.2 _).mpr (Or.inr (Or.inl ⟨q4, this.2 q⟩))⟩
      · have := ih (T.2.2.2 f) (by have := w5 q2; omega) (by have := w5 q2; omega) j hj h
        exact ⟨fun q => ((hP f hf).2.2 _).mpr (Or.inr (Or.inr ⟨q2, this.1 q⟩)), fun q => ((hP f hf).2.2 _).mpr (Or.inr (Or.inr ⟨q2, this.2 q⟩))⟩
  exact key (f + 1) f (by omega) hf
section HASC
variable {F n w : Nat} {x y : Int64} {T : bo_T} {m : xm_S}
-- the class, one formula
theorem hs_po {k : Nat} (hF : 100 < F) (hw0 : 0 < w) (hw : w ≤ 16) (hn : n < w) (hW : bt_W T) (hC : bt_C T m) (hH : hw_C x y n w m) (hk : k < T.1) (hA : 4 ≤ T.2.1 k → m.1 9 (T.2.2.1 k) = nI (hs_f T x y n w (T.2.2.1 k))) (hB : bo_two (T.2.1 k) → m.1 9 (T.2.2.2 k) = nI (hs_f T x y n w (T.2.2.2 k))) : wd_placesOf F (nI k) m = some (nI (hs_f T x y n w k), m) := by
  have h28 := hW.1
  obtain ⟨w1, w2, w3, w4, w5, w6, -⟩ := hW.2 k hk
  obtain ⟨c1, c2, c3⟩ := hC.2 k hk
  obtain ⟨s1, s2, s3⟩ := (bo_W.S hW).2 k hk
  have hev : wd_everywhere m = nI (2 ^ w - 1) := by unfold wd_everywhere; rw [hH.1, nb_m1 (by omega)]
  have hg : ∀ {β : Type} {o : Option β}, xg_n (nI k) 28 o = o := fun {β o} => xg_nI (by omega) (by decide)
  have hga : ∀ {β : Type} {o : Option β}, xg_n (nI (T.2.2.1 k)) 28 o = o := fun {β o} => xg_nI (by omega) (by decide)
  have hgb : ∀ {β : Type} {o : Option β}, xg_n (nI (T.2.2.2 k)) 28 o = o := fun {β o} => xg_nI (by omega) (by decide)
  have cc : ∀ j : Nat, j ≤ 8 → ((nI (T.2.1 k) = nI j) ↔ T.2.1 k = j) := fun j hj => fm_e w1 hj
  have c_0 : (nI (T.2.1 k) = 0) ↔ T.2.1 k = 0 := cc 0 (by decide)
  have c_2 : (nI (T.2.1 k) = 2) ↔ T.2.1 k = 2 := cc 2 (by decide)
  have c_3 : (nI (T.2.1 k) = 3) ↔ T.2.1 k = 3 := cc 3 (by decide)
  have c_4 : (nI (T.2.1 k) = 4) ↔ T.2.1 k = 4 := cc 4 (by decide)
  have c_5 : (nI (T.2.1 k) = 5) ↔ T.2.1 k = 5 := cc 5 (by decide)
  have c_6 : (nI (T.2.1 k) = 6) ↔ T.2.1 k = 6 := cc 6 (by decide)
  have c_7 : (nI (T.2.1 k) = 7) ↔ T.2.1 k = 7 := cc 7 (by decide)
  have c_8 : (nI (T.2.1 k) = 8) ↔ T.2.1 k = 8 := cc 8 (by decide)
  rw [hs_f_e hW hk]
  unfold wd_placesOf hs_s
  simp only [hg, hga, hgb, nI_clamp (show k < 2 ^ 31 by omega), nI_clamp (show T.2.2.1 k < 2 ^ 31 by omega), nI_clamp (show T.2.2.2 k < 2 ^ 31 by omega), c1, c2, c3, c_0, c_2, c_3, c_4, c_5, c_6, c_7, c_8, hev, xc_id]
  have hlt : ∀ j, j < k → hs_f T x y n w j < 2 ^ w := fun j hj => hs_f_lt hW hw0 hn k j hj (by omega)
  have hcase : T.2.1 k = 0 ∨ T.2.1 k = 1 ∨ T.2.1 k = 2 ∨ T.2.1 k = 3 ∨ T.2.1 k = 4 ∨ T.2.1 k = 5 ∨ T.2.1 k = 6 ∨ T.2.1 k = 7 ∨ T.2.1 k = 8 := by omega
  rcases hcase with h | h | h | h | h | h | h | h | h
  · simp [h]
  · simp [h]; rfl
  · rw [wb_all hF hw (w3 (Or.inl h)) hH]; simp [h]
  · rw [wb_all hF hw (w3 (Or.inr h)) hH]
    have e := hw_not (b := fun p => hw_b x y n p (T.2.2.1 k)) (fun p => hw_b_lt _ _ _ _ _) hw
    simp only [h, xc_m]
    simpa using e
  · have a1 := hA (by omega)
    have b1 := hB (Or.inl h)
    rw [a1, b1]; simp [h, nb_and]
  · have a1 := hA (by omega)
    have b1 := hB (Or.inr (Or.inl h))
    rw [a1, b1]; simp [h, nb_or]
  · have a1 := hA (by omega)
    rw [a1, hw_ac hH.1 hH.2.1 hw0 hw hn (hlt _ (w4 (by omega)))]; simp [h]
  · have t2 : bo_two (T.2.1 k) := Or.inr (Or.inr (Or.inl h))
    rw [hA (by omega), hB t2, wu_all hF hw0 hw hn (hlt _ (w4 (by omega))) (hlt _ (w5 t2)) hH]; simp [h]
  · have t2 : bo_two (T.2.1 k) := Or.inr (Or.inr (Or.inr h))
    rw [hA (by omega), hB t2, wr_all hF hw0 hw hn (hlt _ (w4 (by omega))) (hlt _ (w5 t2)) hH]; simp [h]
-- the class, all parts
theorem hs_b2 {PS : Nat → Nat} {f : Nat} {kk : xm_S → Option (Int32 × xm_S)} (hF : 100 < F) (hw0 : 0 < w) (hw : w ≤ 16) (hn : n < w) (hW : bt_W T) (hf : f < T.1) : ∀ (r fu i : Nat) (m : xm_S), i + r = f + 1 → r < fu → bt_C T m → bt_P T PS m → hw_C x y n w m → (∀ p, p < i → (PS f).testBit p = true → m.1 9 p = nI (hs_f T x y n w p)) →
    ∃ m' : xm_S, wd_beginsWith_l2 F (nI f) kk fu (nI i) m = kk m' ∧ m'.1 9 f = nI (hs_f T x y n w f) := by
  intro r
  induction r with
  | zero =>
    intro fu i m hi hfu hC hP hH hm
    obtain ⟨fu, rfl⟩ : ∃ g, fu = g + 1 := ⟨fu - 1, by omega⟩
    have h28 := hW.1
    rw [wd_beginsWith_l2, if_pos (nI_lt (by omega) (by omega))]
    exact ⟨m, rfl, hm f (by omega) (((hP f hf).2.2 f).mpr (Or.inl rfl))⟩
  | succ r ih =>
    intro fu i m hi hfu hC hP hH hm
    obtain ⟨fu, rfl⟩ : ∃ g, fu = g + 1 := ⟨fu - 1, by omega⟩
    have h28 := hW.1
    obtain ⟨p1, p2, p3⟩ := hP f hf
    have hps : PS f < 2 ^ 31 := Nat.lt_of_lt_of_le p2 (Nat.pow_le_pow_right (by decide) (by omega))
    rw [wd_beginsWith_l2, if_neg (nI_nlt (by omega) (by omega))]
    unfold bk_isPart
    rw [xg_nI (by omega) (by decide), nI_clamp (by omega), p1]
    by_cases hb : (PS f).testBit i = true
    · rw [if_neg (fun q => by rw [(nb_t hps (by omega)).mp q] at hb; cases hb)]
      have hk : i < T.1 := by omega
      have hpart : ∀ j, j < T.1 → (PS f).testBit j = true → (4 ≤ T.2.1 j → (PS f).testBit (T.2.2.1 j) = true) ∧ (bo_two (T.2.1 j) → (PS f).testBit (T.2.2.2 j) = true) := bo_tr hW hP hf
      have hpo := hs_po (F := F) (x := x) (y := y) (m := m) hF hw0 hw hn hW hC hH hk (fun q => hm _ (by have := (hW.2 i hk).2.2.2.1 q; omega) ((hpart i hk hb).1 q)) (fun q => hm _ (by have := (hW.2 i hk).2.2.2.2.1 q; omega) ((hpart i hk hb).2 q))
      simp only [xc_s]
      rw [if_neg (show ¬ (1 : Int32) = 0 by decide), hpo]
      simp only [xc_s]
      rw [xg_nI (by omega) (by decide), nI_clamp (by omega), nI_1]
      unfold xs_m
      have g : xf_r [9] m (xw_i m 9 i (nI (hs_f T x y n w i))) := xf_i rfl
      refine ih fu (i + 1) _ (by omega) (by omega) (bt_C_f hC g rfl rfl rfl rfl) (bt_P_f hP g rfl) ?_ (fun p hp hpb => ?_)
      · unfold hw_C at hH ⊢
        rw [(g 7 rfl).1, (g 8 rfl).1]
        exact hH
      · by_cases e : p = i
        · subst e; exact xi_s
        · rw [xi_j e]; exact hm p (by omega) hpb
    · have hb0 : (PS f).testBit i = false := by cases h : (PS f).testBit i with
        | true => exact absurd h hb
        | false => rfl
      rw [if_pos ((nb_t hps (by omega)).mpr hb0)]
      simp only [xc_s, if_true]
      rw [nI_1]
      exact ih fu (i + 1) m (by omega) (by omega) hC hP hH (fun p hp hpb => by
        by_cases e : p = i
        · subst e; rw [hb0] at hpb; cases hpb
        · exact hm p (by omega) hpb)
end HASC
